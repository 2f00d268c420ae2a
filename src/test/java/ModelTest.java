import java.util.Random;
import java.util.function.IntSupplier;

/** Long runs of calls, drawn from fixed seeds: the class and the model must give the same answers. */
public final class ModelTest {
    private static final int RUNS = 400;
    private static final int STEPS = 256;

    private final Random random;
    private final WeatherInsurance x = new WeatherInsurance();
    private final Model m = new Model();
    private final int[] weights = new int[10];
    private String told = "";

    private ModelTest(long seed) {
        random = new Random(seed);
        for (int i = 0; i < weights.length; i++) {
            weights[i] = 1 + random.nextInt(i < 6 ? 12 : 3);
        }
    }

    public static void main(String[] args) {
        for (int seed = 0; seed < RUNS; seed++) {
            new ModelTest(seed).run("run " + seed);
        }
        Check.end();
    }

    private void run(String name) {
        if (random.nextInt(4) > 0) {
            load(setupText());
        }
        for (int call = 0; call < STEPS; call++) {
            step();
            String got = x.errorCode() + " " + x.errorOffset() + " " + Check.seen(x);
            String due = expected();
            if (!got.equals(due)) {
                Check.same(name + ", call " + call + ", " + told, got, due);
                return;
            }
        }
        Check.same(name, "as due", "as due");
    }

    private int below(int bound) {
        return random.nextInt(bound);
    }

    /** A number of a range, now and then one next to its ends or far off. */
    private int near(int least, int most) {
        int choice = below(60);
        switch (choice) {
            case 0:
                return least - 1;
            case 1:
                return most + 1;
            case 2:
                return random.nextInt();
            case 3:
            case 4:
                return least;
            case 5:
            case 6:
                return most;
            default:
                return least + below(Math.max(1, most - least + 1));
        }
    }

    private void step() {
        int sum = 0;
        for (int weight : weights) {
            sum += weight;
        }
        int pick = below(sum);
        int kind = 0;
        while (pick >= weights[kind]) {
            pick -= weights[kind];
            kind++;
        }
        act(kind);
    }

    private void act(int kind) {
        switch (kind) {
            case 0:
                int wind = near(0, below(2) * 145 + 5);
                int rain = near(0, below(2) * 47 + 3);
                both("passHour " + wind + " " + rain, () -> x.passHour(wind, rain), () -> m.passHour(wind, rain));
                break;
            case 1:
                buy();
                break;
            case 2:
            case 3:
                int policy = near(0, m.world.policies.size() - 1);
                both("fileClaim " + policy, () -> x.fileClaim(policy), () -> m.fileClaim(policy));
                break;
            case 4:
                script(scriptText());
                break;
            case 5:
                both("undo", x::undo, m::undo);
                break;
            case 6:
                int holder = near(0, m.names.size() - 1);
                int amount = near(1, 999);
                both("deposit", () -> x.deposit(holder, amount), () -> m.deposit(holder, amount));
                break;
            case 7:
                both("saveState", x::saveState, m::saveState);
                break;
            case 8:
                both("restoreState", x::restoreState, m::restoreState);
                break;
            default:
                if (below(4) == 0) {
                    load(setupText());
                } else {
                    int claim = near(0, m.world.claims.size() - 1);
                    both("writeClaim", () -> x.writeClaim(claim), () -> m.writeClaim(claim));
                }
                break;
        }
    }

    private void buy() {
        boolean kite = below(2) == 0;
        int holder = near(0, m.names.size() - 1);
        int first = near(m.clock(), below(8) == 0 ? 1000 : Math.min(1000, m.clock() + 9));
        int hours = near(1, below(3) == 0 ? 24 : 3);
        int cover = near(1, below(2) == 0 ? 500 : 60);
        int low = near(0, kite ? 100 : below(2) * 40 + 10);
        int high = near(Math.max(0, low), 150);
        if (kite) {
            both("buyKite", () -> x.buyKite(holder, first, hours, cover, low, high),
                () -> m.buy(true, holder, first, hours, cover, low, high));
        } else {
            both("buyPicnic", () -> x.buyPicnic(holder, first, hours, cover, low),
                () -> m.buy(false, holder, first, hours, cover, low, 0));
        }
    }

    private void both(String call, IntSupplier real, IntSupplier model) {
        told = call;
        Check.same(call, answer(real), answer(model));
    }

    private static String answer(IntSupplier call) {
        try {
            return Integer.toString(call.getAsInt());
        } catch (RuntimeException e) {
            return e.getClass().getName();
        }
    }

    // ---- texts ----

    private void load(String text) {
        Check.feed(x, text);
        m.input = text;
        both("setup " + text, x::loadSetup, m::loadSetup);
    }

    private void script(String text) {
        Check.feed(x, text);
        m.input = text;
        both("script " + text, x::runScript, m::runScript);
    }

    private String setupText() {
        StringBuilder text = new StringBuilder();
        int holders = 1 + below(below(8) == 0 ? 9 : 4);
        for (int i = 0; i < holders; i++) {
            String name = below(40) == 0 ? "a" : "abcdefghi".charAt(i) + (i % 3 == 0 ? "lice" : "");
            text.append("holder ").append(name).append(' ').append(below(2) == 0 ? below(60) : below(2000)).append(';');
        }
        int assessors = 1 + below(below(8) == 0 ? 4 : 3);
        for (int i = 0; i < assessors; i++) {
            text.append("assessor ").append(below(below(30) == 0 ? 12 : 10)).append(';');
        }
        if (below(3) > 0) {
            text.append("reserve ").append(below(300)).append(';');
        }
        return spoilt(text);
    }

    private String scriptText() {
        StringBuilder text = new StringBuilder();
        int statements = below(below(12) == 0 ? 32 : 8);
        for (int i = 0; i < statements; i++) {
            String statement = statementText();
            if (text.length() + statement.length() <= 590) {
                text.append(statement);
            }
        }
        return spoilt(text);
    }

    private String statementText() {
        String name = m.names.get(below(m.names.size()));
        int soon = Math.min(1000, m.clock() + below(6));
        switch (below(6)) {
            case 0:
                return "hours " + (1 + below(below(4) == 0 ? 48 : 5)) + " " + below(151) + " " + below(51) + ";";
            case 1:
                int low = below(151);
                return "kite " + name + " " + soon + " " + (1 + below(24)) + " " + (1 + below(500)) + " " + low + " "
                    + (low + below(151 - low)) + ";";
            case 2:
                return "picnic " + name + " " + soon + "\n" + (1 + below(4)) + " " + (1 + below(500)) + " " + below(51) + ";";
            case 3:
                return "deposit " + name + (1 + below(999)) + ";";
            default:
                return "claim " + below(Math.min(20, m.world.policies.size() + 1)) + " ;";
        }
    }

    /** Now and then damages a text in one place. */
    private String spoilt(StringBuilder text) {
        if (below(3) == 0 && text.length() > 0) {
            int place = below(text.length());
            String signs = "az09; \nA-é/:{`\t";
            switch (below(4)) {
                case 0:
                    text.deleteCharAt(place);
                    break;
                case 1:
                    text.setCharAt(place, signs.charAt(below(signs.length())));
                    break;
                case 2:
                    text.insert(place, signs.charAt(below(signs.length())));
                    break;
                default:
                    text.setLength(place);
                    break;
            }
        }
        return text.toString();
    }

    // ---- all that can be seen ----

    private String expected() {
        StringBuilder s = new StringBuilder();
        Model.World w = m.world;
        s.append(m.errorCode).append(' ').append(m.errorOffset).append(' ').append(m.output).append('\n');
        appendSums(s, w);
        for (int h = 0; h < m.names.size(); h++) {
            int daily = 0;
            for (Model.Policy p : w.policies) {
                daily += p.holder == h && m.active(w, p, m.clock()) ? p.premium() : 0;
            }
            s.append(m.names.get(h)).append(' ').append(w.balances[h]).append(' ').append(daily).append('\n');
        }
        for (int a = 0; a < m.strict.size(); a++) {
            s.append(m.strict.get(a)).append(' ').append(m.workload(a)).append('\n');
        }
        for (int h = Math.max(0, m.clock() - 60); h < m.clock(); h++) {
            s.append(w.weather.get(h)[0]).append('/').append(w.weather.get(h)[1]).append(' ');
        }
        for (int i = 0; i < w.policies.size(); i++) {
            Model.Policy p = w.policies.get(i);
            s.append('\n').append(p.kite).append(' ').append(p.holder).append(' ').append(p.first).append(' ')
                .append(p.hours).append(' ').append(p.cover).append(' ').append(p.premium()).append(' ')
                .append(m.active(w, p, m.clock())).append(' ').append(p.lapsed).append(' ').append(m.damage(i)).append(' ')
                .append(m.obstacle(i)).append(' ').append(m.hoursUntilLapse(i));
        }
        for (int i = 0; i < w.claims.size(); i++) {
            Model.Claim c = w.claims.get(i);
            s.append('\n').append(c.policy).append(' ').append(c.assessor).append(' ').append(!c.decided).append(' ')
                .append(c.decided && c.amount == 0).append(' ').append(c.paid).append(' ').append(c.amount).append(' ')
                .append(m.hoursUntilDecision(i));
        }
        return s.toString();
    }

    private void appendSums(StringBuilder s, Model.World w) {
        int[] received = new int[m.names.size()];
        int paid = 0;
        int decided = 0;
        int granted = 0;
        for (Model.Claim c : w.claims) {
            received[w.policies.get(c.policy).holder] += c.paid ? c.amount : 0;
            paid += c.paid ? c.amount : 0;
            decided += c.decided ? 1 : 0;
            granted += c.amount > 0 ? 1 : 0;
        }
        int luckiest = 0;
        for (int h = 0; h < received.length; h++) {
            luckiest = received[h] > received[luckiest] ? h : luckiest;
        }
        int open = 0;
        for (int c : w.queue) {
            open += w.claims.get(c).amount;
        }
        s.append(m.clock()).append(' ').append(w.reserve).append(' ').append(w.premiums).append(' ').append(paid).append(' ')
            .append(w.deposits).append(' ').append(w.policies.stream().filter(p -> p.lapsed).count()).append(' ')
            .append(luckiest).append(' ').append(w.queue.isEmpty() ? -1 : w.queue.get(0)).append(' ').append(open).append(' ')
            .append(m.nextAssessor()).append(' ').append(w.premiums == 0 ? 0.0 : (double) paid / (double) w.premiums).append(' ')
            .append(decided == 0 ? 0f : (float) granted / (float) decided).append(' ').append(true).append('\n');
    }
}
