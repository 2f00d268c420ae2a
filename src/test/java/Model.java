import java.util.ArrayList;
import java.util.Arrays;
import java.util.List;
import java.util.regex.Matcher;
import java.util.regex.Pattern;

/**
 * The document told a second time, as plainly as can be: whole worlds are copied at each change, and sums are counted
 * anew. It is only as independent of the class as its form: both read the document in the same way.
 */
final class Model {
    static final class Policy {
        boolean kite;
        int holder;
        int first;
        int hours;
        int cover;
        int low;
        int high;
        boolean lapsed;

        Policy copy() {
            Policy other = new Policy();
            other.kite = kite;
            other.holder = holder;
            other.first = first;
            other.hours = hours;
            other.cover = cover;
            other.low = low;
            other.high = high;
            other.lapsed = lapsed;
            return other;
        }

        int premium() {
            return cover * hours / (kite ? 40 : 20 + 2 * low) + 1;
        }
    }

    static final class Claim {
        int policy;
        int assessor;
        int left;
        boolean decided;
        boolean paid;
        int amount;

        Claim copy() {
            Claim other = new Claim();
            other.policy = policy;
            other.assessor = assessor;
            other.left = left;
            other.decided = decided;
            other.paid = paid;
            other.amount = amount;
            return other;
        }
    }

    static final class World {
        List<int[]> weather = new ArrayList<>();
        int reserve;
        int[] balances;
        List<Policy> policies = new ArrayList<>();
        List<Claim> claims = new ArrayList<>();
        List<Integer> queue = new ArrayList<>();
        int premiums;
        int deposits;

        World copy() {
            World other = new World();
            other.weather.addAll(weather);
            other.reserve = reserve;
            other.balances = balances.clone();
            for (Policy policy : policies) {
                other.policies.add(policy.copy());
            }
            for (Claim claim : claims) {
                other.claims.add(claim.copy());
            }
            other.queue.addAll(queue);
            other.premiums = premiums;
            other.deposits = deposits;
            return other;
        }
    }

    static final class Refused extends RuntimeException {
        private static final long serialVersionUID = 1L;
    }

    List<String> names = new ArrayList<>();
    List<Integer> strict = new ArrayList<>();
    World world = new World();
    List<World> past = new ArrayList<>();
    World saved;
    String input = "";
    String output = "";
    int errorCode = 0;
    int errorOffset = -1;

    Model() {
        input = "holder ann 200;holder bob 60;holder cid 500;assessor 0;assessor 4;reserve 300;";
        loadSetup();
    }

    int clock() {
        return world.weather.size();
    }

    private void change() {
        past.add(world.copy());
        if (past.size() > 8) {
            past.remove(0);
        }
    }

    private static void in(int number, int least, int most) {
        if (number < least || number > most) {
            throw new IllegalArgumentException();
        }
    }

    private static void index(int number, int count) {
        if (number < 0 || number >= count) {
            throw new IndexOutOfBoundsException();
        }
    }

    // ---- the rules ----

    boolean active(World w, Policy p, int clock) {
        return !p.lapsed && clock < p.first + p.hours;
    }

    void collect(World w, int clock) {
        if (clock > 0 && clock % 24 == 0) {
            for (Policy p : w.policies) {
                if (active(w, p, clock)) {
                    if (w.balances[p.holder] < p.premium()) {
                        p.lapsed = true;
                    } else {
                        w.balances[p.holder] -= p.premium();
                        w.reserve += p.premium();
                        w.premiums += p.premium();
                    }
                }
            }
        }
    }

    int damage(int policy) {
        Policy p = world.policies.get(policy);
        int bad = 0;
        int rain = 0;
        for (int h = 0; h < clock(); h++) {
            if (h >= p.first && h < p.first + p.hours) {
                int[] weather = world.weather.get(h);
                bad += weather[0] < p.low || weather[0] > p.high ? 1 : 0;
                rain += weather[1];
            }
        }
        if (p.kite) {
            return p.cover * bad / p.hours;
        }
        int excess = rain - p.low;
        return excess <= 0 ? 0 : Math.min(p.cover, p.cover * excess / 10);
    }

    int passHour(int wind, int rain) {
        in(wind, 0, 150);
        in(rain, 0, 50);
        if (clock() >= 1000) {
            throw new IllegalStateException();
        }
        change();
        return hour(wind, rain);
    }

    private int hour(int wind, int rain) {
        collect(world, clock());
        world.weather.add(new int[] {wind, rain});
        int decided = 0;
        for (int a = 0; a < strict.size(); a++) {
            for (int c = 0; c < world.claims.size(); c++) {
                Claim claim = world.claims.get(c);
                if (claim.assessor == a && !claim.decided) {
                    claim.left--;
                    if (claim.left == 0) {
                        decided++;
                        claim.decided = true;
                        int damage = damage(claim.policy);
                        claim.amount = damage - damage * (5 * strict.get(a)) / 100;
                        if (claim.amount > 0) {
                            world.queue.add(c);
                        }
                    }
                    break;
                }
            }
        }
        while (!world.queue.isEmpty()) {
            Claim claim = world.claims.get(world.queue.get(0));
            if (claim.amount > world.reserve) {
                break;
            }
            world.reserve -= claim.amount;
            world.balances[world.policies.get(claim.policy).holder] += claim.amount;
            claim.paid = true;
            world.queue.remove(0);
        }
        return decided;
    }

    int buy(boolean kite, int holder, int first, int hours, int cover, int low, int high) {
        index(holder, names.size());
        in(first, clock(), 1000);
        in(hours, 1, 24);
        in(cover, 1, 500);
        in(low, 0, kite ? 150 : 50);
        if (kite) {
            in(high, 0, 150);
            in(high, low, 150);
        }
        Policy p = new Policy();
        p.kite = kite;
        p.holder = holder;
        p.first = first;
        p.hours = hours;
        p.cover = cover;
        p.low = low;
        p.high = high;
        if (world.policies.size() == 20 || world.balances[holder] < p.premium()) {
            throw new IllegalStateException();
        }
        change();
        world.policies.add(p);
        world.balances[holder] -= p.premium();
        world.reserve += p.premium();
        world.premiums += p.premium();
        return world.policies.size() - 1;
    }

    int obstacle(int policy) {
        index(policy, world.policies.size());
        Policy p = world.policies.get(policy);
        int over = clock() - p.first - p.hours;
        boolean claimed = false;
        boolean duplicate = false;
        for (Claim claim : world.claims) {
            Policy other = world.policies.get(claim.policy);
            claimed |= claim.policy == policy;
            duplicate |= other.holder == p.holder && other.kite == p.kite && other.first == p.first;
        }
        return p.lapsed ? 1 : over < 0 ? 2 : over > 72 ? 3 : claimed ? 4 : duplicate ? 5 : 0;
    }

    int workload(int assessor) {
        index(assessor, strict.size());
        int count = 0;
        for (Claim claim : world.claims) {
            count += claim.assessor == assessor && !claim.decided ? 1 : 0;
        }
        return count;
    }

    int nextAssessor() {
        int best = 0;
        for (int a = 0; a < strict.size(); a++) {
            if (workload(a) < workload(best)) {
                best = a;
            }
        }
        return best;
    }

    int fileClaim(int policy) {
        if (obstacle(policy) != 0) {
            throw new IllegalStateException();
        }
        change();
        Claim claim = new Claim();
        claim.policy = policy;
        claim.assessor = nextAssessor();
        claim.left = 2 + strict.get(claim.assessor);
        world.claims.add(claim);
        return world.claims.size() - 1;
    }

    int deposit(int holder, int amount) {
        index(holder, names.size());
        in(amount, 1, 999);
        change();
        world.deposits += amount;
        world.balances[holder] += amount;
        return world.balances[holder];
    }

    int undo() {
        if (past.isEmpty()) {
            throw new java.util.NoSuchElementException();
        }
        world = past.remove(past.size() - 1);
        return past.size();
    }

    int saveState() {
        saved = world.copy();
        return clock();
    }

    int restoreState() {
        if (saved == null) {
            throw new java.util.NoSuchElementException();
        }
        world = saved.copy();
        past.clear();
        return clock();
    }

    int writeClaim(int claim) {
        index(claim, world.claims.size());
        Claim c = world.claims.get(claim);
        Policy p = world.policies.get(c.policy);
        output = names.get(p.holder) + "/" + (p.kite ? "k" : "p")
            + (!c.decided ? "?" : c.amount == 0 ? "-" : (c.paid ? "=" : "+") + c.amount);
        return output.length();
    }

    int hoursUntilDecision(int claim) {
        index(claim, world.claims.size());
        Model future = future();
        int hours = 0;
        while (!future.world.claims.get(claim).decided) {
            future.hour(0, 0);
            hours++;
        }
        return hours;
    }

    int hoursUntilLapse(int policy) {
        index(policy, world.policies.size());
        World future = world.copy();
        for (int hours = 0; hours <= 1100; hours++) {
            if (future.policies.get(policy).lapsed) {
                return hours;
            }
            collect(future, clock() + hours);
        }
        return -1;
    }

    private Model future() {
        Model future = new Model();
        future.names = names;
        future.strict = strict;
        future.world = world.copy();
        return future;
    }

    // ---- texts ----

    /** A token: its kind is w, n, ; or x (what starts no token, or is too long), or $ at the end. */
    private static final class Token {
        final char kind;
        final String text;
        final int offset;

        Token(char kind, String text, int offset) {
            this.kind = kind;
            this.text = text;
            this.offset = offset;
        }
    }

    private static List<Token> tokens(String text) {
        List<Token> tokens = new ArrayList<>();
        Matcher m = Pattern.compile("[ \n]+|([a-z]+)|([0-9]+)|(;)|([^a-z0-9; \n])").matcher(text);
        while (m.find()) {
            if (m.group(1) != null) {
                tokens.add(new Token(m.group(1).length() > 8 ? 'x' : 'w', m.group(1), m.start()));
            } else if (m.group(2) != null) {
                tokens.add(new Token(m.group(2).length() > 4 ? 'x' : 'n', m.group(2), m.start()));
            } else if (m.group(3) != null) {
                tokens.add(new Token(';', ";", m.start()));
            } else if (m.group(4) != null) {
                tokens.add(new Token('x', m.group(4), m.start()));
            }
        }
        tokens.add(new Token('$', "", text.length()));
        return tokens;
    }

    private List<Token> reading;
    private int at;

    private Token take() {
        return reading.get(at++);
    }

    private Refused error(int code, Token token) {
        errorCode = code;
        errorOffset = token.offset;
        return new Refused();
    }

    private int number(int least, int most) {
        Token token = take();
        if (token.kind != 'n') {
            throw error(1, token);
        }
        int number = Integer.parseInt(token.text);
        if (number < least || number > most) {
            throw error(2, token);
        }
        return number;
    }

    private Token name() {
        Token token = take();
        if (token.kind != 'w' || token.text.length() > 6) {
            throw error(1, token);
        }
        return token;
    }

    private void semicolon() {
        Token token = take();
        if (token.kind != ';') {
            throw error(1, token);
        }
    }

    private void open() {
        reading = tokens(input);
        at = 0;
        input = "";
        errorCode = 0;
        errorOffset = -1;
    }

    int loadSetup() {
        open();
        try {
            return load();
        } catch (Refused e) {
            return -1;
        }
    }

    private int load() {
        List<String> newNames = new ArrayList<>();
        List<Integer> newBalances = new ArrayList<>();
        List<Integer> newStrict = new ArrayList<>();
        int newReserve = 1000;
        Token token = take();
        for (; token.kind != '$'; token = take()) {
            if (token.kind != 'w' || !Arrays.asList("holder", "assessor", "reserve").contains(token.text)) {
                throw error(1, token);
            }
            if (token.text.equals("holder")) {
                if (newNames.size() == 8) {
                    throw error(4, token);
                }
                Token name = name();
                if (newNames.contains(name.text)) {
                    throw error(3, name);
                }
                newNames.add(name.text);
                newBalances.add(number(0, 9999));
            } else if (token.text.equals("assessor")) {
                if (newStrict.size() == 3) {
                    throw error(4, token);
                }
                newStrict.add(number(0, 9));
            } else {
                newReserve = number(0, 9999);
            }
            semicolon();
        }
        if (newNames.isEmpty() || newStrict.isEmpty()) {
            throw error(5, token);
        }
        names = newNames;
        strict = newStrict;
        world = new World();
        world.reserve = newReserve;
        world.balances = newBalances.stream().mapToInt(i -> i).toArray();
        past.clear();
        saved = null;
        return names.size();
    }

    int runScript() {
        open();
        List<int[]> statements = new ArrayList<>();
        try {
            for (Token token = take(); token.kind != '$'; token = take()) {
                statements.add(statement(token, statements.size()));
            }
        } catch (Refused e) {
            return -1;
        }
        change();
        List<World> before = new ArrayList<>(past);
        int done = 0;
        try {
            for (int[] s : statements) {
                execute(s);
                done++;
            }
        } catch (IndexOutOfBoundsException | IllegalArgumentException | IllegalStateException e) {
            // the execution ends before this statement
        }
        past = before;
        return done;
    }

    private void execute(int[] s) {
        switch (s[0]) {
            case 0:
                if (clock() + s[1] > 1000) {
                    throw new IllegalStateException();
                }
                for (int i = 0; i < s[1]; i++) {
                    passHour(s[2], s[3]);
                }
                break;
            case 1:
                buy(true, s[1], s[2], s[3], s[4], s[5], s[6]);
                break;
            case 2:
                buy(false, s[1], s[2], s[3], s[4], s[5], 0);
                break;
            case 3:
                fileClaim(s[1]);
                break;
            default:
                deposit(s[1], s[2]);
                break;
        }
    }

    private int[] statement(Token token, int before) {
        int kind = token.kind == 'w' ? Arrays.asList("hours", "kite", "picnic", "claim", "deposit").indexOf(token.text) : -1;
        if (kind < 0) {
            throw error(1, token);
        }
        if (before == 30) {
            throw error(4, token);
        }
        int[] s = new int[7];
        s[0] = kind;
        if (kind == 0) {
            s[1] = number(1, 48);
            s[2] = number(0, 150);
            s[3] = number(0, 50);
        } else if (kind == 3) {
            s[1] = number(0, 19);
        } else {
            Token name = name();
            s[1] = names.indexOf(name.text);
            if (s[1] < 0) {
                throw error(3, name);
            }
            if (kind == 4) {
                s[2] = number(1, 999);
            } else {
                s[2] = number(0, 1000);
                s[3] = number(1, 24);
                s[4] = number(1, 500);
                s[5] = number(0, kind == 1 ? 150 : 50);
                s[6] = kind == 1 ? number(s[5], 150) : 0;
            }
        }
        semicolon();
        return s;
    }
}
