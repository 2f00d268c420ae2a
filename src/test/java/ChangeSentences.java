/** The sentences on changes, in "Terms" and in promises 52 to 61, and on the output and the saved state. */
final class ChangeSentences {
    private static final int NONE = WeatherInsurance.NONE;
    private static final int[] NOT_HOURS = {0, 25, -1, -24, Integer.MIN_VALUE, Integer.MAX_VALUE};
    private static final int[] NOT_COVERS = {0, 501, -1, -500, Integer.MIN_VALUE, Integer.MAX_VALUE};
    private static final int[] NOT_WINDS = {-1, 151, Integer.MIN_VALUE, Integer.MAX_VALUE};
    private static final int[] NOT_RAINS = {-1, 51, -10, Integer.MIN_VALUE, Integer.MAX_VALUE};
    private static final int[] NOT_FIRSTS = {1001, -1, Integer.MIN_VALUE, Integer.MAX_VALUE, Integer.MAX_VALUE - 23};

    private final Doc doc;

    ChangeSentences(Doc doc) {
        this.doc = doc;
    }

    void run() {
        lifetime();
        changes();
        passHour();
        buyKite();
        buyPicnic();
        fileClaim();
        deposit();
        undo();
        writeClaim();
        outputByte();
        saveState();
        restoreState();
    }

    private void test(int promise, String sentence) {
        doc.test("Promise " + promise, sentence);
    }

    private void plain(int promise, String... sentences) {
        doc.plain("Promise " + promise, sentences);
    }

    /** A call that must be refused, and then nothing may have changed. */
    private static void refused(WeatherInsurance x, Class<? extends Throwable> due, String what, Runnable call) {
        String before = Check.seen(x);
        Check.raises(what, due, call);
        Check.same("nothing changed by: " + what, Check.seen(x), before);
    }

    private static void badArgument(WeatherInsurance x, String what, Runnable call) {
        refused(x, IllegalArgumentException.class, what, call);
    }

    private static void badState(WeatherInsurance x, String what, Runnable call) {
        refused(x, IllegalStateException.class, what, call);
    }

    private static void outOfBounds(WeatherInsurance x, String what, Runnable call) {
        refused(x, IndexOutOfBoundsException.class, what, call);
    }

    private void lifetime() {
        doc.plain("What it is", "An administration system for weather insurance of kite days and picnics.");
        doc.test("What it is", "An object is used for at most 512 calls after it has been made; what later calls answer is free.");
        WeatherInsurance x = new WeatherInsurance();
        for (int call = 1; call < 512; call++) {
            Check.same("deposit " + call, x.deposit(0, 999), 200 + 999 * call);
        }
        Check.same("call 512", x.undo(), 7);
        WeatherInsurance y = new WeatherInsurance();
        for (int call = 0; call < 256; call++) {
            Check.same("hour", y.passHour(call % 151, 0) * 1000 + y.clock(), call + 1);
        }
        WeatherInsurance z = new WeatherInsurance();
        for (int call = 0; call < 128; call++) {
            z.passHour(call, 0);
            z.saveState();
            z.undo();
            z.restoreState();
        }
        Check.same("128 hours saved, undone and restored", z.clock(), 128);
        doc.plain("The constants", "`NONE = -1`: There is no such thing.", "`NO_ERROR = 0`: No error.",
            "`SYNTAX = 1`: Error code: a token or byte that cannot stand at this place.",
            "`OUT_OF_RANGE = 2`: Error code: a number outside its range.",
            "`BAD_NAME = 3`: Error code: a name that is already used, or that belongs to no holder.",
            "`TOO_MANY = 4`: Error code: too many holders, assessors or statements.",
            "`TOO_FEW = 5`: Error code: no holder or no assessor.", "`MAY_CLAIM = 0`: Claim obstacle: a claim can be filed.",
            "`LAPSED = 1`: Claim obstacle: the policy has lapsed.", "`NOT_OVER = 2`: Claim obstacle: the policy has not expired.",
            "`ALREADY_CLAIMED = 4`: Claim obstacle: a claim was filed for this policy.",
            "`DUPLICATE = 5`: Claim obstacle: a claim was filed with the same holder, kind and first hour.");
        doc.test("The constants", "`TOO_LATE = 3`: Claim obstacle: the clock is more than 72 hours past the expiry.");
        WeatherInsurance late = Check.with("holder a 9;assessor 0;", "kite a 0 24 1 0 0;hours 48 0 0;hours 48 0 0;");
        Check.same("72 hours", late.claimObstacle(0), WeatherInsurance.MAY_CLAIM);
        late.passHour(0, 0);
        Check.same("more", late.claimObstacle(0), 3);
    }

    // ---- changes ----

    private void changes() {
        whatIsAChange();
        eightChanges();
        refusedCallsChangeNothing();
        firstExceptionIsThrown();
        numbersOfNothing();
        forecastsChangeNothing();
    }

    private void whatIsAChange() {
        doc.test("Changes", "Every method whose description calls it a change can be undone if it succeeds, even if it leaves "
            + "everything as it was.");
        WeatherInsurance x = Check.with("holder a 99;assessor 0;");
        String[] before = new String[7];
        before[0] = Check.seen(x);
        x.buyKite(0, 0, 1, 1, 0, 0);
        before[1] = Check.seen(x);
        x.passHour(7, 7);
        before[2] = Check.seen(x);
        x.fileClaim(0);
        before[3] = Check.seen(x);
        x.buyPicnic(0, 1, 1, 1, 0);
        before[4] = Check.seen(x);
        x.deposit(0, 1);
        before[5] = Check.seen(x);
        Check.script(x, "");
        before[6] = Check.seen(x);
        Check.script(x, "claim 19;");
        x.saveState();
        Check.script(x, "x");
        x.appendInput(0, 0, 0, 0, 0);
        x.truncateInput(0);
        x.hoursUntilLapse(0);
        Check.badState("refused", () -> x.fileClaim(0));
        Check.badArgument("refused", () -> x.passHour(-1, 0));
        Check.badArgument("refused", () -> x.deposit(0, 0));
        Check.badArgument("refused", () -> x.buyKite(0, 0, 1, 1, 0, 0));
        Check.badArgument("refused", () -> x.buyPicnic(0, 0, 1, 1, 0));
        for (int left = 6; left >= 0; left--) {
            Check.same("undo", x.undo(), left);
            Check.same("as before change " + left, Check.seen(x), before[left]);
        }
        Check.noElement("nothing else is a change", x::undo);
    }

    private void eightChanges() {
        doc.test("Changes", "At most 8 changes are kept; a further change drops the oldest one.");
        for (int changes = 1; changes <= 30; changes++) {
            WeatherInsurance x = new WeatherInsurance();
            for (int i = 0; i < changes; i++) {
                x.deposit(1, 1 + i);
            }
            int balance = x.balance(1);
            int kept = Math.min(8, changes);
            for (int i = 1; i <= kept; i++) {
                Check.same("undo of " + changes, x.undo(), kept - i);
                balance -= changes + 1 - i;
                Check.same("balance after undo of " + changes, x.balance(1), balance);
            }
            Check.noElement("no ninth of " + changes, x::undo);
        }
        // Changes that were undone make room.
        WeatherInsurance y = new WeatherInsurance();
        for (int round = 0; round < 5; round++) {
            for (int i = 0; i < 5; i++) {
                y.passHour(round, i);
            }
            Check.same("undo", y.undo(), Math.min(8, 5 + 3 * round) - 1);
            Check.same("undo", y.undo(), Math.min(8, 5 + 3 * round) - 2);
        }
        Check.same("three hours stay of five, five times", y.clock(), 15);
    }

    private void refusedCallsChangeNothing() {
        doc.test("Changes", "A method that throws an exception changes nothing.");
        WeatherInsurance x = PromiseSentences.busy();
        Check.script(x, "deposit cid 1;x");
        Check.feed(x, "claim 5;");
        Runnable[] calls = {
            () -> x.nameByte(3, 0), () -> x.balance(3), () -> x.dailyPremiums(3), () -> x.wind(25), () -> x.rain(25),
            () -> x.isKite(5), () -> x.holderOf(5), () -> x.firstHour(5), () -> x.insuredHours(5), () -> x.cover(5),
            () -> x.premium(5), () -> x.isActive(5), () -> x.hasLapsed(5), () -> x.damage(5), () -> x.claimObstacle(5),
            () -> x.policyOf(4), () -> x.assessorOf(4), () -> x.isUndecided(4), () -> x.isDenied(4), () -> x.isPaid(4),
            () -> x.grantedAmount(4), () -> x.strictness(2), () -> x.workload(2), () -> x.kitePremium(0, 1),
            () -> x.picnicPremium(1, 1, 51), () -> x.hoursUntilDecision(4), () -> x.hoursUntilLapse(5),
            () -> x.passHour(151, 0), () -> x.passHour(0, 51), () -> x.buyKite(3, 30, 1, 1, 0, 0),
            () -> x.buyKite(0, 24, 1, 1, 0, 0), () -> x.buyKite(0, 30, 1, 1, 1, 0), () -> x.buyKite(1, 30, 24, 500, 0, 0),
            () -> x.buyPicnic(3, 30, 1, 1, 0), () -> x.buyPicnic(0, 24, 1, 1, 0), () -> x.buyPicnic(1, 30, 24, 500, 0),
            () -> x.fileClaim(5), () -> x.fileClaim(0), () -> x.fileClaim(3), () -> x.deposit(3, 1), () -> x.deposit(0, 0),
            () -> x.deposit(0, 1000), () -> x.writeClaim(4)};
        String before = Check.seen(x);
        for (int i = 0; i < calls.length; i++) {
            boolean threw = false;
            try {
                calls[i].run();
            } catch (RuntimeException e) {
                threw = true;
            }
            Check.same("call " + i + " is refused", threw, true);
            Check.same("nothing changed by call " + i, Check.seen(x), before);
            Check.same("no error by call " + i, x.errorCode() * 1000 + x.errorOffset(), 1014);
        }
        Check.same("the input stays", x.truncateInput(9) ? 9 : x.truncateInput(8) ? 8 : 0, 8);
        Check.same("the changes stay", x.undo(), 2);
        Check.same("the saved state stays", x.restoreState(), 25);
        Check.noElement("a refused undo", x::undo);
        Check.same("changes nothing", Check.seen(x), before);
        WeatherInsurance y = new WeatherInsurance();
        y.deposit(0, 5);
        String one = Check.seen(y);
        Check.noElement("a refused restoreState", y::restoreState);
        Check.same("changes nothing either", Check.seen(y), one);
        Check.same("and keeps the changes", y.undo(), 0);
        atTheEndOfTheClock();
    }

    private void atTheEndOfTheClock() {
        WeatherInsurance x = Check.with("holder a 99;assessor 0;", "kite a 990 9 1 0 0;");
        Check.until(x, 999);
        x.fileClaim(0);
        x.passHour(1, 1);
        badState(x, "hour 1001", () -> x.passHour(2, 2));
        Check.same("the claim got no hour of work", x.hoursUntilDecision(0), 1);
        Check.same("it is no change", x.undo(), 7);
        Check.same("the hour before it was", x.clock(), 999);
    }

    private void firstExceptionIsThrown() {
        doc.test("Changes", "If several exceptions apply to a call, the one that is listed first is thrown.");
        WeatherInsurance x = new WeatherInsurance();
        Check.whole(x, "kite cid 0 1 1 0 0;".repeat(19) + "kite bob 30 24 98 0 0;");
        Check.until(x, 1000);
        outOfBounds(x, "kite: holder, number, and 20 policies", () -> x.buyKite(3, 0, 0, 0, -1, -2));
        outOfBounds(x, "kite: holder, and 20 policies", () -> x.buyKite(3, 1000, 1, 1, 0, 0));
        badArgument(x, "kite: number, and 20 policies", () -> x.buyKite(0, 999, 1, 1, 0, 0));
        badArgument(x, "kite: winds, and 20 policies", () -> x.buyKite(0, 1000, 1, 1, 1, 0));
        badState(x, "kite: 20 policies", () -> x.buyKite(0, 1000, 1, 1, 0, 0));
        outOfBounds(x, "picnic: holder, number, and 20 policies", () -> x.buyPicnic(3, 0, 0, 0, -1));
        outOfBounds(x, "picnic: holder, and 20 policies", () -> x.buyPicnic(3, 1000, 1, 1, 0));
        badArgument(x, "picnic: number, and 20 policies", () -> x.buyPicnic(0, 999, 1, 1, 0));
        badArgument(x, "picnic: limit, and 20 policies", () -> x.buyPicnic(0, 1000, 1, 1, 51));
        badState(x, "picnic: 20 policies", () -> x.buyPicnic(0, 1000, 1, 1, 0));
        badArgument(x, "hour: wind, and 1000 hours", () -> x.passHour(151, 0));
        badArgument(x, "hour: rain, and 1000 hours", () -> x.passHour(0, 51));
        badState(x, "hour: 1000 hours", () -> x.passHour(0, 0));
        outOfBounds(x, "deposit: holder, and amount", () -> x.deposit(3, 0));
        outOfBounds(x, "deposit: holder, and amount", () -> x.deposit(-1, 1000));
        outOfBounds(x, "claim: policy", () -> x.fileClaim(20));
        WeatherInsurance y = new WeatherInsurance();
        outOfBounds(y, "kite: holder, and balance", () -> y.buyKite(3, 0, 24, 500, 0, 0));
        badArgument(y, "kite: cover, and balance", () -> y.buyKite(1, 0, 24, 501, 0, 0));
        badArgument(y, "picnic: hours, and balance", () -> y.buyPicnic(1, 0, 25, 500, 0));
    }

    private void numbersOfNothing() {
        doc.test("Changes", "A number that is not that of a holder, a policy, a claim, an assessor or a past hour causes an "
            + "IndexOutOfBoundsException.");
        WeatherInsurance x = PromiseSentences.busy();
        for (int holder : new int[] {-1, 3, 7, 8, Integer.MIN_VALUE, Integer.MAX_VALUE}) {
            Check.outOfBounds("nameByte", () -> x.nameByte(holder, 0));
            Check.outOfBounds("balance", () -> x.balance(holder));
            Check.outOfBounds("dailyPremiums", () -> x.dailyPremiums(holder));
            Check.outOfBounds("buyKite", () -> x.buyKite(holder, 30, 1, 1, 0, 0));
            Check.outOfBounds("buyPicnic", () -> x.buyPicnic(holder, 30, 1, 1, 0));
            Check.outOfBounds("deposit", () -> x.deposit(holder, 1));
        }
        for (int policy : new int[] {-1, 5, 19, 20, Integer.MIN_VALUE, Integer.MAX_VALUE}) {
            Check.outOfBounds("damage", () -> x.damage(policy));
            Check.outOfBounds("claimObstacle", () -> x.claimObstacle(policy));
            Check.outOfBounds("hoursUntilLapse", () -> x.hoursUntilLapse(policy));
            Check.outOfBounds("fileClaim", () -> x.fileClaim(policy));
        }
        for (int claim : new int[] {-1, 4, 19, 20, Integer.MIN_VALUE, Integer.MAX_VALUE}) {
            Check.outOfBounds("policyOf", () -> x.policyOf(claim));
            Check.outOfBounds("hoursUntilDecision", () -> x.hoursUntilDecision(claim));
            Check.outOfBounds("writeClaim", () -> x.writeClaim(claim));
        }
        for (int assessor : new int[] {-1, 2, 3, Integer.MIN_VALUE, Integer.MAX_VALUE}) {
            Check.outOfBounds("strictness", () -> x.strictness(assessor));
            Check.outOfBounds("workload", () -> x.workload(assessor));
        }
        for (int hour : new int[] {-1, 25, 999, 1000, Integer.MIN_VALUE, Integer.MAX_VALUE}) {
            Check.outOfBounds("wind", () -> x.wind(hour));
            Check.outOfBounds("rain", () -> x.rain(hour));
        }
    }

    private void forecastsChangeNothing() {
        doc.test("Changes", "A forecast never changes anything, and the limit of the clock does not apply to it.");
        WeatherInsurance x = Check.with("holder a 14;assessor 0;assessor 9;",
            "kite a 60 1 40 0 0;kite a 90 1 120 0 0;kite a 0 1 1 5 9;hours 1 0 0;claim 2;");
        String before = Check.seen(x);
        Check.same("a decision", x.hoursUntilDecision(0), 2);
        Check.same("a lapse of 2 at 48", x.hoursUntilLapse(0), 48);
        Check.same("a lapse of 4 at 48", x.hoursUntilLapse(1), 48);
        Check.same("the same again", x.hoursUntilLapse(0), 48);
        Check.same("nothing has changed", Check.seen(x), before);
        Check.same("it is no change", x.undo(), 0);
        WeatherInsurance y = Check.with("holder a 14;assessor 9;");
        Check.until(y, 992);
        Check.whole(y, "kite a 992 7 1 0 0;kite a 993 7 1 0 0;kite a 1000 24 1 0 0;kite a 1000 8 1 0 0;kite a 1000 9 1 0 0;");
        Check.until(y, 1000);
        Check.whole(y, "claim 0;claim 1;");
        Check.same("decided at 1011", y.hoursUntilDecision(0), 11);
        Check.same("decided at 1022", y.hoursUntilDecision(1), 22);
        Check.same("9 suffice at 1008", y.hoursUntilLapse(2), NONE);
        Check.whole(y, "picnic a 1000 7 20 0;picnic a 1000 1 1 0;");
        Check.same("nothing is left", y.balance(0), 0);
        Check.same("not paid at 1008", y.hoursUntilLapse(2), 9);
        Check.same("over at 1008", y.hoursUntilLapse(3), NONE);
        Check.same("over at 1009", y.hoursUntilLapse(4), 9);
        Check.same("the clock stands", y.clock(), 1000);
    }

    // ---- promise 52 ----

    private void passHour() {
        plain(52, "Lets an hour pass.");
        test(52, "This is a change.");
        isUndone("passHour", x -> x.passHour(7, 8));
        test(52, "- `wind`: wind of the hour, 0 to 150");
        WeatherInsurance x = new WeatherInsurance();
        x.passHour(0, 9);
        x.passHour(150, 9);
        Check.same("the ends of the range", x.wind(0) * 1000 + x.wind(1), 150);
        test(52, "- `rain`: rain of the hour, 0 to 50");
        x.passHour(9, 0);
        x.passHour(9, 50);
        Check.same("the ends of the range", x.rain(2) * 1000 + x.rain(3), 50);
        test(52, "Returns the number of claims that were decided.");
        decidedClaims();
        test(52, "Throws `IllegalArgumentException` if wind or rain is outside its range");
        for (int wind : NOT_WINDS) {
            badArgument(x, "wind " + wind, () -> x.passHour(wind, 0));
        }
        for (int rain : NOT_RAINS) {
            badArgument(x, "rain " + rain, () -> x.passHour(0, rain));
        }
        badArgument(x, "both", () -> x.passHour(-1, -1));
        test(52, "Throws `IllegalStateException` if 1000 hours have passed");
        Check.until(x, 998);
        Check.same("999", x.passHour(0, 0), 0);
        Check.same("1000", x.passHour(0, 0), 0);
        badState(x, "1001", () -> x.passHour(0, 0));
        x.undo();
        Check.same("1000 again", x.passHour(3, 4), 0);
        badState(x, "1001 again", () -> x.passHour(150, 50));
    }

    interface Change {
        void make(WeatherInsurance x);
    }

    /** A change of an object with a claim that can be filed is undone, and is one change. */
    private static void isUndone(String what, Change change) {
        WeatherInsurance x = Check.with("holder a 99;assessor 0;", "kite a 0 1 40 5 9;hours 1 0 0;");
        String before = Check.seen(x);
        change.make(x);
        Check.same(what + " changed something", Check.seen(x).equals(before), false);
        Check.same(what + " is undone, and one is left", x.undo(), 1);
        Check.same(what + " left nothing", Check.seen(x), before);
    }

    private static void decidedClaims() {
        WeatherInsurance x = Check.with("holder a 99;assessor 0;assessor 0;assessor 0;",
            "kite a 0 1 1 0 0;kite a 1 1 1 5 9;kite a 2 1 1 0 0;hours 3 0 0;");
        Check.same("no claim", x.passHour(0, 0), 0);
        Check.whole(x, "claim 0;claim 1;claim 2;");
        Check.same("none in the first hour", x.passHour(0, 0), 0);
        Check.same("three, though two are denied", x.passHour(0, 0), 3);
        Check.same("none any more", x.passHour(0, 0), 0);
        x.undo();
        x.undo();
        Check.same("three again", x.passHour(0, 0), 3);
    }

    // ---- promises 53 and 54 ----

    private void buyKite() {
        plain(53, "Lets a holder buy a kite policy.", "Returns the number of the policy.");
        test(53, "This is a change.");
        isUndone("buyKite", x -> x.buyKite(0, 1, 1, 1, 0, 0));
        WeatherInsurance x = Check.with("holder a 9999;holder b 12;assessor 0;", "hours 5 0 0;");
        test(53, "- `hours`: number of insured hours, 1 to 24");
        Check.same("the ends", x.buyKite(0, 5, 1, 9, 3, 4) + x.buyKite(0, 5, 24, 9, 3, 4), 1);
        Check.same("the ends", x.insuredHours(0) + x.insuredHours(1), 25);
        test(53, "- `cover`: cover, 1 to 500");
        Check.same("the ends", x.buyKite(0, 5, 2, 1, 3, 4) + x.buyKite(0, 5, 2, 500, 3, 4), 5);
        Check.same("the ends", x.cover(2) + x.cover(3), 501);
        test(53, "- `minWind`: least wind, 0 to 150");
        Check.same("the ends", x.buyKite(0, 5, 1, 10, 0, 150) + x.buyKite(0, 5, 1, 10, 150, 150), 9);
        test(53, "- `maxWind`: greatest wind, 0 to 150");
        Check.same("the ends", x.buyKite(0, 5, 1, 10, 0, 0) + x.buyKite(0, 5, 1, 10, 1, 150), 13);
        x.passHour(0, 0);
        Check.same("of wind 0", x.damage(4) + " " + x.damage(5) + " " + x.damage(6) + " " + x.damage(7), "0 10 0 10");
        x.undo();
        x.passHour(150, 0);
        Check.same("of wind 150", x.damage(4) + " " + x.damage(5) + " " + x.damage(6) + " " + x.damage(7), "0 0 10 0");
        test(53, "Throws `IndexOutOfBoundsException` if there is no such holder");
        PromiseSentences.holderBounds((y, holder) -> y.buyKite(holder, 0, 1, 1, 0, 0));
        test(53, "Throws `IllegalArgumentException` if first is less than clock() or greater than 1000, another number is outside "
            + "its range, or minWind is greater than maxWind");
        wrongKites(x);
        test(53, "Throws `IllegalStateException` if there are 20 policies, or the balance is less than the premium");
        badState(x, "a premium of 13 of 12", () -> x.buyKite(1, 6, 1, 480, 0, 0));
        Check.same("a premium of 12 of 12", x.buyKite(1, 6, 1, 479, 0, 0), 8);
        badState(x, "a premium of 1 of 0", () -> x.buyKite(1, 6, 1, 1, 0, 0));
        for (int policy = 9; policy < 20; policy++) {
            Check.same("policy", x.buyKite(0, 6, 1, 1, 0, 0), policy);
        }
        badState(x, "policy 21", () -> x.buyKite(0, 6, 1, 1, 0, 0));
        x.undo();
        Check.same("policy 20 again", x.buyKite(0, 6, 1, 1, 0, 0), 19);
    }

    private static void wrongKites(WeatherInsurance x) {
        Check.same("clock", x.clock(), 6);
        badArgument(x, "first 5", () -> x.buyKite(0, 5, 1, 1, 0, 0));
        for (int first : NOT_FIRSTS) {
            badArgument(x, "first " + first, () -> x.buyKite(0, first, 1, 1, 0, 0));
        }
        for (int hours : NOT_HOURS) {
            badArgument(x, "hours " + hours, () -> x.buyKite(0, 6, hours, 1, 0, 0));
        }
        for (int cover : NOT_COVERS) {
            badArgument(x, "cover " + cover, () -> x.buyKite(0, 6, 1, cover, 0, 0));
        }
        for (int wind : NOT_WINDS) {
            badArgument(x, "minWind " + wind, () -> x.buyKite(0, 6, 1, 1, wind, 150));
            badArgument(x, "maxWind " + wind, () -> x.buyKite(0, 6, 1, 1, 0, wind));
            badArgument(x, "both winds " + wind, () -> x.buyKite(0, 6, 1, 1, wind, wind));
        }
        badArgument(x, "minWind 1, maxWind 0", () -> x.buyKite(0, 6, 1, 1, 1, 0));
        badArgument(x, "minWind 150, maxWind 149", () -> x.buyKite(0, 6, 1, 1, 150, 149));
        Check.same("first 6", x.buyKite(0, 6, 1, 1, 7, 7), 8);
        x.undo();
        Check.same("first 1000", x.buyKite(0, 1000, 24, 1, 7, 7), 8);
        x.undo();
    }

    private void buyPicnic() {
        plain(54, "Lets a holder buy a picnic policy.", "Returns the number of the policy.");
        test(54, "This is a change.");
        isUndone("buyPicnic", x -> x.buyPicnic(0, 1, 1, 1, 0));
        WeatherInsurance x = Check.with("holder a 9999;holder b 12;assessor 0;", "hours 5 0 0;");
        test(54, "- `hours`: number of insured hours, 1 to 24");
        Check.same("the ends", x.buyPicnic(0, 5, 1, 9, 3) + x.buyPicnic(0, 5, 24, 9, 3), 1);
        Check.same("the ends", x.insuredHours(0) + x.insuredHours(1), 25);
        test(54, "- `cover`: cover, 1 to 500");
        Check.same("the ends", x.buyPicnic(0, 5, 2, 1, 3) + x.buyPicnic(0, 5, 2, 500, 3), 5);
        Check.same("the ends", x.cover(2) + x.cover(3), 501);
        test(54, "- `rainLimit`: rain limit, 0 to 50");
        Check.same("the ends", x.buyPicnic(0, 5, 2, 10, 0) + x.buyPicnic(0, 5, 2, 10, 50), 9);
        x.passHour(0, 1);
        x.passHour(0, 50);
        Check.same("of 51", x.damage(4) + " " + x.damage(5), "10 1");
        x.undo();
        Check.same("of 1", x.damage(4) + " " + x.damage(5), "1 0");
        test(54, "Throws `IndexOutOfBoundsException` if there is no such holder");
        PromiseSentences.holderBounds((y, holder) -> y.buyPicnic(holder, 0, 1, 1, 0));
        test(54, "Throws `IllegalArgumentException` if first is less than clock() or greater than 1000, or another number is "
            + "outside its range");
        wrongPicnics(x);
        test(54, "Throws `IllegalStateException` if there are 20 policies, or the balance is less than the premium");
        badState(x, "a premium of 13 of 12", () -> x.buyPicnic(1, 6, 1, 240, 0));
        Check.same("a premium of 12 of 12", x.buyPicnic(1, 6, 1, 239, 0), 6);
        badState(x, "a premium of 1 of 0", () -> x.buyPicnic(1, 6, 1, 1, 0));
        for (int policy = 7; policy < 20; policy++) {
            Check.same("policy", x.buyPicnic(0, 6, 1, 1, 0), policy);
        }
        badState(x, "policy 21", () -> x.buyPicnic(0, 6, 1, 1, 0));
        x.undo();
        Check.same("policy 20 again", x.buyPicnic(0, 6, 1, 1, 0), 19);
    }

    private static void wrongPicnics(WeatherInsurance x) {
        Check.same("clock", x.clock(), 6);
        badArgument(x, "first 5", () -> x.buyPicnic(0, 5, 1, 1, 0));
        for (int first : NOT_FIRSTS) {
            badArgument(x, "first " + first, () -> x.buyPicnic(0, first, 1, 1, 0));
        }
        for (int hours : NOT_HOURS) {
            badArgument(x, "hours " + hours, () -> x.buyPicnic(0, 6, hours, 1, 0));
        }
        for (int cover : NOT_COVERS) {
            badArgument(x, "cover " + cover, () -> x.buyPicnic(0, 6, 1, cover, 0));
        }
        for (int limit : NOT_RAINS) {
            badArgument(x, "rainLimit " + limit, () -> x.buyPicnic(0, 6, 1, 1, limit));
        }
        Check.same("first 6", x.buyPicnic(0, 6, 1, 1, 7), 6);
        x.undo();
        Check.same("first 1000", x.buyPicnic(0, 1000, 24, 1, 7), 6);
        x.undo();
    }

    // ---- promises 55 and 56 ----

    private void fileClaim() {
        plain(55, "Files a claim.", "Returns the number of the claim.");
        test(55, "This is a change.");
        isUndone("fileClaim", x -> x.fileClaim(0));
        test(55, "Throws `IndexOutOfBoundsException` if there is no such policy");
        WeatherInsurance none = new WeatherInsurance();
        outOfBounds(none, "policy 0 of none", () -> none.fileClaim(0));
        PromiseSentences.policyBounds((x, policy) -> {
            x.fileClaim(policy);
            x.undo();
        });
        test(55, "Throws `IllegalStateException` if claimObstacle(policy) is not MAY_CLAIM");
        WeatherInsurance x = Check.with("holder a 99;holder b 16;assessor 0;",
            "kite a 0 1 9 0 0;kite a 0 1 9 0 0;kite a 1 1 9 0 0;picnic b 30 5 60 0;kite a 0 2 9 0 0;hours 1 0 0;");
        badState(x, "NOT_OVER", () -> x.fileClaim(2));
        Check.same("MAY_CLAIM", x.fileClaim(0), 0);
        badState(x, "ALREADY_CLAIMED", () -> x.fileClaim(0));
        badState(x, "DUPLICATE", () -> x.fileClaim(1));
        badState(x, "NOT_OVER, and DUPLICATE", () -> x.fileClaim(4));
        Check.until(x, 25);
        badState(x, "LAPSED", () -> x.fileClaim(3));
        Check.until(x, 74);
        Check.same("MAY_CLAIM for the last time", x.fileClaim(2), 1);
        x.undo();
        x.passHour(0, 0);
        badState(x, "TOO_LATE", () -> x.fileClaim(2));
        Check.same("one claim", x.claimCount(), 1);
    }

    private void deposit() {
        plain(56, "Pays money into the account of a holder.", "Returns the balance afterwards.");
        test(56, "This is a change.");
        isUndone("deposit", x -> x.deposit(0, 1));
        test(56, "- `amount`: amount, 1 to 999");
        WeatherInsurance x = new WeatherInsurance();
        Check.same("least", x.deposit(1, 1), 61);
        Check.same("greatest", x.deposit(1, 999), 1060);
        Check.same("sum", x.totalDeposits(), 1000);
        test(56, "Throws `IndexOutOfBoundsException` if there is no such holder");
        PromiseSentences.holderBounds((y, holder) -> y.deposit(holder, 1));
        test(56, "Throws `IllegalArgumentException` if amount is outside its range");
        for (int amount : new int[] {0, 1000, -1, -999, Integer.MIN_VALUE, Integer.MAX_VALUE}) {
            badArgument(x, "amount " + amount, () -> x.deposit(1, amount));
        }
        Check.same("two changes", x.undo(), 1);
    }

    // ---- promise 57 ----

    private void undo() {
        test(57, "Undoes the latest change that has not been undone.");
        WeatherInsurance x = new WeatherInsurance();
        x.deposit(0, 1);
        x.deposit(0, 10);
        x.undo();
        Check.same("the latest", x.balance(0), 201);
        x.deposit(0, 100);
        x.undo();
        Check.same("the latest again", x.balance(0), 201);
        x.undo();
        Check.same("the one before, since the others have been undone", x.balance(0), 200);
        deepUndo();
        test(57, "The input buffer, the reported text error, the output and the saved state stay as they are.");
        WeatherInsurance y = PromiseSentences.busy();
        String output = Check.output(y);
        Check.script(y, "hours 1 1 1;deposit ann 5;oops");
        Check.feed(y, "holder new 7;assessor 1;");
        y.undo();
        y.undo();
        Check.same("the output", Check.output(y), output);
        Check.same("the code", y.errorCode(), WeatherInsurance.SYNTAX);
        Check.same("the offset", y.errorOffset(), 26);
        Check.same("the saved state", y.restoreState(), 25);
        Check.same("with its claim", y.claimCount(), 4);
        Check.same("the input", y.loadSetup(), 1);
        Check.same("the name in it", Check.name(y, 0), "new");
        WeatherInsurance z = new WeatherInsurance();
        Check.script(z, "hours 1 1 1;");
        z.undo();
        Check.same("the script does not come back into the buffer", z.truncateInput(1), false);
        test(57, "Returns the number of changes that can still be undone.");
        for (int i = 0; i < 9; i++) {
            x.deposit(0, 1);
        }
        for (int left = 7; left >= 0; left--) {
            Check.same("of eight", x.undo(), left);
        }
        test(57, "Throws `NoSuchElementException` if there is no change to undo");
        Check.noElement("all eight are undone", x::undo);
        Check.noElement("still", x::undo);
        WeatherInsurance fresh = new WeatherInsurance();
        Check.noElement("a new object", fresh::undo);
        Check.badArgument("a refused change", () -> fresh.deposit(0, 0));
        Check.noElement("is none", fresh::undo);
        fresh.deposit(0, 1);
        Check.setup(fresh, "holder a 5;assessor 1;");
        Check.noElement("after a setup", fresh::undo);
        fresh.deposit(0, 1);
        fresh.saveState();
        fresh.restoreState();
        Check.noElement("after restoreState", fresh::undo);
    }

    /** Undoes hours in which a premium was paid, a policy lapsed, and claims were decided and paid. */
    private static void deepUndo() {
        WeatherInsurance x = Check.with("holder a 99;holder b 16;assessor 0;assessor 1;reserve 0;",
            "kite a 22 1 80 5 9;picnic b 30 5 60 0;kite a 30 1 400 0 0;kite a 21 1 40 5 9;hours 23 0 0;claim 0;claim 3;");
        String[] before = new String[8];
        for (int i = 0; i < 4; i++) {
            before[i] = Check.seen(x);
            x.passHour(i, i);
        }
        before[4] = Check.seen(x);
        x.buyKite(0, 90, 24, 100, 0, 0);
        before[5] = Check.seen(x);
        x.passHour(9, 9);
        Check.same("a lapse, a payment, and a claim to be paid", x.lapsedCount() + " " + x.isPaid(0) + " " + x.isPaid(1),
            "1 true false");
        for (int i = 5; i >= 0; i--) {
            Check.same("undo", x.undo(), i + 1);
            Check.same("as before change " + i, Check.seen(x), before[i]);
        }
    }

    // ---- promises 58 and 59 ----

    private void writeClaim() {
        test(58, "Writes a claim to the output and replaces the former output.");
        WeatherInsurance x = Check.with("holder abcdef 900;holder g 5;assessor 0;reserve 0;",
            "picnic abcdef 0 1 500 0;kite g 0 1 100 5 9;kite g 0 1 9 0 0;kite g 1 1 5 0 9;hours 2 0 50;claim 0;claim 1;claim 3;");
        Check.pass(x, 2, 0, 0);
        Check.same("the longest", Check.written(x, 0), "abcdef/p+500");
        Check.same("the shortest is no mixture", Check.written(x, 1), "g/k?");
        Check.same("the longest again", Check.written(x, 0), "abcdef/p+500");
        test(58, "The output has the name of the holder, a slash (byte 47), k (byte 107) for a kite policy or p (byte 112) for a "
            + "picnic policy, and then a question mark (byte 63) if the claim is undecided, a hyphen (byte 45) if it was denied, "
            + "a plus sign (byte 43) and the granted amount if it is granted and unpaid, or an equals sign (byte 61) and the "
            + "granted amount if it was paid.");
        Check.same("undecided", Check.written(x, 2), "g/k?");
        Check.pass(x, 4, 0, 0);
        Check.same("denied", Check.written(x, 2), "g/k-");
        Check.same("granted and unpaid", Check.written(x, 1), "g/k+100");
        for (int amount : new int[] {1, 9, 10, 19, 90, 99, 100, 101, 110, 200, 499, 500}) {
            Check.same("paid, kite", paid("kite a 0 1 " + amount + " 5 9;"), "a/k=" + amount);
            Check.same("paid, picnic", paid("picnic a 0 1 " + amount + " 0;"), "a/p=" + amount);
        }
        test(58, "Returns the length of the output in bytes.");
        Check.same("the longest", x.writeClaim(0), 12);
        Check.same("a kite", x.writeClaim(1), 7);
        Check.same("the shortest", x.writeClaim(2), 4);
        test(58, "Throws `IndexOutOfBoundsException` if there is no such claim");
        PromiseSentences.claimBounds((y, claim) -> y.writeClaim(claim));
        outOfBounds(x, "claim 3 leaves the output", () -> x.writeClaim(3));
        Check.same("as it was", Check.output(x), "g/k-");
    }

    private static String paid(String policy) {
        WeatherInsurance x = Check.with("holder a 99;assessor 0;", policy + "hours 1 0 50;claim 0;hours 2 0 0;");
        return Check.written(x, 0);
    }

    private void outputByte() {
        plain(59, "Returns a byte of the output.");
        test(59, "- `index`: index of the byte, starting at 0");
        WeatherInsurance x = Check.with("holder xyz 99;assessor 0;", "picnic xyz 0 1 42 0;hours 1 0 50;claim 0;hours 2 0 0;");
        Check.same("an output", Check.written(x, 0), "xyz/p=42");
        Check.same("the first byte", x.outputByte(0), 120);
        Check.same("the last byte", x.outputByte(7), 50);
        test(59, "Returns the byte, or NONE if there is no byte with this index.");
        int[] bytes = {120, 121, 122, 47, 112, 61, 52, 50, NONE, NONE};
        for (int index = 0; index < bytes.length; index++) {
            Check.same("byte " + index, x.outputByte(index), bytes[index]);
        }
        for (int index : new int[] {-1, -8, 12, 16, 600, Integer.MIN_VALUE, Integer.MAX_VALUE}) {
            Check.same("byte " + index, x.outputByte(index), NONE);
        }
        x.undo();
        Check.whole(x, "picnic xyz 0 1 42 0;hours 1 0 50;claim 0;");
        Check.same("a shorter output", x.writeClaim(0), 6);
        Check.same("its last byte", x.outputByte(5), 63);
        Check.same("nothing behind it", x.outputByte(6), NONE);
        Check.same("no output at first", new WeatherInsurance().outputByte(0), NONE);
    }

    // ---- promises 60 and 61 ----

    private void saveState() {
        test(60, "Saves the state and replaces the state saved before.");
        WeatherInsurance x = new WeatherInsurance();
        String empty = Check.seen(x);
        x.saveState();
        x.deposit(0, 1);
        x.restoreState();
        Check.same("the state of a new object", Check.seen(x), empty);
        x.deposit(0, 2);
        String second = Check.seen(x);
        x.saveState();
        x.deposit(0, 4);
        x.restoreState();
        Check.same("the second one", Check.seen(x), second);
        test(60, "The saved state does not contain the changes that can be undone.");
        WeatherInsurance y = new WeatherInsurance();
        y.deposit(0, 1);
        y.deposit(0, 1);
        y.saveState();
        Check.same("saving leaves them where they are", y.undo(), 1);
        y.restoreState();
        Check.same("two deposits", y.balance(0), 202);
        Check.noElement("they do not come back", y::undo);
        plain(60, "Returns the time on the clock.");
    }

    /** What was undone is overwritten, and yet the saved state is what it was: policies, weather, claims, payments. */
    private static void restoreAfterUndo() {
        WeatherInsurance y = saved();
        WeatherInsurance z = saved();
        String saved = Check.seen(y);
        y.saveState();
        for (int left = 1; left >= 0; left--) {
            Check.same("undo", y.undo(), left);
        }
        Check.same("no policy", y.policyCount(), 0);
        Check.whole(y, "kite a 0 7 8 10 90;picnic b 1 4 5 6;picnic b 0 3 33 1;kite a 2 2 22 70 80;hours 9 9 9;");
        Check.whole(y, "claim 3;claim 2;claim 1;claim 0;hours 40 40 40;");
        Check.same("other policies, claims and hours were in their places",
            y.isKite(2) + " " + y.policyOf(0) + " " + y.rain(0) + " " + y.openPayments(), "false 3 9 60");
        y.restoreState();
        Check.same("all of the saved ones are back", Check.seen(y), saved);
        for (int hour = 0; hour < 40; hour++) {
            Check.same("the same is decided", y.passHour(hour, 0), z.passHour(hour, 0));
            Check.same("and goes on as if nothing had been between", Check.seen(y), Check.seen(z));
        }
        Check.same("to its end", y.openPayments() > 0 && y.grantedPart() == 1f, true);
    }

    /** Two assessors, four policies, their claims; the third claim is granted first, and none is paid. */
    private static WeatherInsurance saved() {
        WeatherInsurance x = Check.with("holder a 99;holder b 99;assessor 7;assessor 0;reserve 0;");
        Check.whole(x, "kite a 0 4 400 5 9;picnic a 1 2 300 45;kite b 1 2 200 30 50;picnic b 0 4 150 9;hours 2 6 20;hours 2 40 34;");
        Check.whole(x, "claim 0;claim 1;hours 2 0 0;claim 2;hours 4 0 0;claim 3;");
        return x;
    }

    private void restoreState() {
        test(61, "Restores the saved state, which stays saved.");
        WeatherInsurance x = PromiseSentences.busy();
        String saved = Check.seen(x);
        for (int round = 0; round < 3; round++) {
            Check.whole(x, "hours 40 77 9;");
            x.deposit(1, 9);
            Check.whole(x, "kite cid 90 2 8 0 0;picnic ann 91 3 9 9;");
            Check.same("something else is seen", Check.seen(x).equals(saved), false);
            Check.same("restore", x.restoreState(), 25);
            Check.same("round " + round, Check.seen(x), saved);
        }
        restoreAfterUndo();
        test(61, "No change can be undone afterwards.");
        x.deposit(0, 1);
        x.restoreState();
        Check.noElement("none", x::undo);
        x.deposit(0, 1);
        Check.same("but those that come then", x.undo(), 0);
        Check.noElement("and no other", x::undo);
        test(61, "Returns the time on the clock afterwards.");
        WeatherInsurance t = new WeatherInsurance();
        Check.same("saved at 0", t.saveState(), 0);
        t.passHour(1, 1);
        Check.same("restored at 1", t.restoreState(), 0);
        Check.until(t, 1000);
        Check.same("saved at 1000", t.saveState(), 1000);
        t.undo();
        Check.same("restored", t.restoreState(), 1000);
        test(61, "Throws `NoSuchElementException` if no state is saved");
        WeatherInsurance none = new WeatherInsurance();
        Check.noElement("a new object", none::restoreState);
        none.passHour(1, 1);
        Check.noElement("after a change", none::restoreState);
        none.saveState();
        Check.setup(none, "holder a 5;");
        Check.same("an invalid setup leaves it saved", none.restoreState(), 1);
        Check.setup(none, "holder a 5;assessor 1;");
        Check.noElement("a valid setup does not", none::restoreState);
    }
}
