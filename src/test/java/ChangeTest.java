/** Promises 49 to 61: forecasts, changes, undo, the output and the saved state. */
public final class ChangeTest {
    public static void main(String[] args) {
        p49HoursUntilDecision();
        p50HoursUntilLapse();
        p50LapseOfSeveralPolicies();
        p50LapseBeyondTheLimitOfTheClock();
        p51IsConsistent();
        p52PassHour();
        p52OrderWithinAnHour();
        p53BuyKite();
        p54BuyPicnic();
        p55FileClaim();
        p56Deposit();
        p57Undo();
        p57EightChanges();
        p57WhatUndoLeaves();
        p58WriteClaim();
        p59OutputByte();
        p60p61SaveAndRestore();
        p61RestoredWeather();
        p61RestoredPolicies();
        p61RestoredOrderOfPayments();
        Check.end();
    }

    private static void p49HoursUntilDecision() {
        WeatherInsurance x = new WeatherInsurance();
        Check.setup(x, "holder a 99;assessor 3;reserve 0;");
        Check.script(x, "kite a 0 1 40 5 9;picnic a 0 1 40 0;hours 1 0 0;claim 1;hours 2 0 0;claim 0;");
        Check.same("the first: 5 - 2", x.hoursUntilDecision(0), 3);
        Check.same("the second waits for the first", x.hoursUntilDecision(1), 8);
        Check.pass(x, 2, 0, 0);
        Check.same("one hour more", x.hoursUntilDecision(0), 1);
        Check.pass(x, 1, 0, 0);
        Check.same("decided", x.hoursUntilDecision(0), 0);
        Check.same("the second has the assessor", x.hoursUntilDecision(1), 5);
        Check.pass(x, 5, 0, 0);
        Check.same("both are decided", x.hoursUntilDecision(1), 0);

        WeatherInsurance y = new WeatherInsurance();
        Check.script(y, "kite ann 0 1 1 0 0;picnic ann 0 1 1 0;kite bob 0 1 1 0 0;hours 1 0 0;claim 0;claim 1;claim 2;");
        Check.same("another assessor's claims do not count", y.hoursUntilDecision(1), 6);
        Check.same("the second of the quick one", y.hoursUntilDecision(2), 4);

        WeatherInsurance z = new WeatherInsurance();
        Check.script(z, "kite ann 992 8 1 0 0;" + "hours 48 0 0;".repeat(20) + "hours 40 0 0;claim 0;");
        Check.same("clock at its limit", z.clock(), 1000);
        Check.same("the limit of the clock does not apply", z.hoursUntilDecision(0), 2);
    }

    private static void p50HoursUntilLapse() {
        WeatherInsurance x = new WeatherInsurance();
        x.buyPicnic(1, 30, 5, 200, 0);
        Check.same("at hour 24", x.hoursUntilLapse(0), 25);
        Check.pass(x, 24, 0, 0);
        Check.same("now", x.hoursUntilLapse(0), 1);
        x.deposit(1, 42);
        Check.same("paid once, over at 35", x.hoursUntilLapse(0), WeatherInsurance.NONE);
        x.undo();
        x.passHour(0, 0);
        Check.same("lapsed", x.hoursUntilLapse(0), 0);
        Check.pass(x, 20, 0, 0);
        Check.same("lapsed and over", x.hoursUntilLapse(0), 0);

        WeatherInsurance y = new WeatherInsurance();
        y.buyKite(1, 23, 1, 400, 0, 0);
        y.buyKite(0, 24, 1, 500, 0, 0);
        Check.same("over at 24, before a premium is due", y.hoursUntilLapse(0), WeatherInsurance.NONE);
        Check.same("enough money", y.hoursUntilLapse(1), WeatherInsurance.NONE);
        Check.pass(y, 30, 0, 0);
        Check.same("over", y.hoursUntilLapse(0), WeatherInsurance.NONE);
        Check.same("no premium is due at clock 0", fresh("holder a 2;assessor 0;", "kite a 24 1 40 0 0;"), 25);
        Check.same("a premium is due at clock 24", fresh("holder a 2;assessor 0;", "hours 24 0 0;kite a 48 1 40 0 0;"), 1);
        Check.same("the balance just suffices", fresh("holder a 4;assessor 0;", "kite a 47 1 40 0 0;"), WeatherInsurance.NONE);
        Check.same("it suffices once", fresh("holder a 4;assessor 0;", "kite a 48 1 40 0 0;"), 49);
    }

    private static int fresh(String setup, String script) {
        WeatherInsurance x = new WeatherInsurance();
        Check.setup(x, setup);
        Check.script(x, script);
        return x.hoursUntilLapse(0);
    }

    private static void p50LapseOfSeveralPolicies() {
        WeatherInsurance x = new WeatherInsurance();
        Check.setup(x, "holder a 100;holder b 500;assessor 0;reserve 5;");
        x.buyKite(0, 60, 1, 400, 0, 0);
        x.buyKite(1, 60, 1, 400, 0, 0);
        x.buyKite(0, 60, 1, 240, 0, 0);
        x.buyKite(0, 60, 1, 160, 0, 0);
        x.deposit(0, 3);
        Check.same("balance", x.balance(0), 103 - 11 - 7 - 5);
        x.buyKite(0, 24, 24, 66, 0, 0);
        Check.same("balance", x.balance(0), 40);
        // on day 1: 11, 7, 5 are paid of 40, 17 are left, and then 40 of the last; on day 2: 11 of 17, then 6 are left
        Check.same("the first never", x.hoursUntilLapse(0), WeatherInsurance.NONE);
        Check.same("the second on day 2", x.hoursUntilLapse(2), 49);
        Check.same("the third on day 2 has 6 left for 5", x.hoursUntilLapse(3), WeatherInsurance.NONE);
        Check.same("the last on day 1", x.hoursUntilLapse(4), 25);
        Check.same("a forecast changes nothing", x.balance(0), 40);
        Check.same("another holder", x.hoursUntilLapse(1), WeatherInsurance.NONE);
        Check.pass(x, 49, 0, 0);
        Check.same("as foretold: first", x.hasLapsed(0), false);
        Check.same("as foretold: second", x.hasLapsed(2), true);
        Check.same("as foretold: third", x.hasLapsed(3), false);
        Check.same("as foretold: last", x.hasLapsed(4), true);
    }

    private static void p50LapseBeyondTheLimitOfTheClock() {
        WeatherInsurance x = new WeatherInsurance();
        Check.setup(x, "holder a 2;assessor 0;");
        Check.script(x, "hours 48 0 0;".repeat(20) + "hours 40 0 0;kite a 1000 24 1 0 0;");
        Check.same("paid for 1008", x.hoursUntilLapse(0), WeatherInsurance.NONE);
        x.undo();
        Check.setup(x, "holder a 1;assessor 0;");
        Check.script(x, "hours 48 0 0;".repeat(20) + "hours 40 0 0;kite a 1000 24 1 0 0;");
        Check.same("not paid at 1008", x.hoursUntilLapse(0), 9);
        Check.same("clock", x.clock(), 1000);
    }

    private static void p51IsConsistent() {
        WeatherInsurance x = new WeatherInsurance();
        Check.same("new", x.isConsistent(), true);
        Check.script(x, "kite ann 0 5 50 3 9;picnic bob 1 6 60 2;kite cid 9 9 90 1 2;deposit bob 77;hours 1 2 3;"
            + "hours 1 9 4;hours 1 10 1;hours 1 3 50;hours 4 40 0;claim 0;claim 1;");
        Check.same("undecided", x.isConsistent(), true);
        Check.pass(x, 30, 2, 2);
        Check.same("decided", x.isConsistent(), true);
        x.undo();
        Check.same("undone", x.isConsistent(), true);
        x.saveState();
        Check.pass(x, 9, 150, 50);
        x.restoreState();
        Check.same("restored", x.isConsistent(), true);
    }

    private static void p52PassHour() {
        WeatherInsurance x = new WeatherInsurance();
        Check.badArgument("wind -1", () -> x.passHour(-1, 0));
        Check.badArgument("wind 151", () -> x.passHour(151, 0));
        Check.badArgument("rain -1", () -> x.passHour(0, -1));
        Check.badArgument("rain 51", () -> x.passHour(0, 51));
        Check.same("no hour has passed", x.clock(), 0);
        Check.noElement("nothing to undo", x::undo);
        Check.same("least", x.passHour(0, 0), 0);
        Check.same("greatest", x.passHour(150, 50), 0);
        Check.pass(x, 997, 1, 1);
        Check.same("the last hour", x.passHour(1, 1), 0);
        Check.badState("hour 1001", () -> x.passHour(0, 0));
        Check.badArgument("wrong wind comes first", () -> x.passHour(-1, 0));
        Check.same("clock", x.clock(), 1000);
        x.undo();
        Check.same("the last hour again", x.passHour(2, 3), 0);
        Check.same("its wind", x.wind(999), 2);

        WeatherInsurance y = new WeatherInsurance();
        Check.setup(y, "holder a 99;assessor 1;assessor 1;assessor 0;reserve 9;");
        Check.script(y, "kite a 0 1 4 0 0;picnic a 0 1 4 0;kite a 1 1 4 5 9;picnic a 1 1 4 0;hours 2 0 0;claim 0;claim 1;claim 2;claim 3;");
        Check.same("none yet", y.passHour(0, 0), 0);
        Check.same("one", y.passHour(0, 0), 1);
        Check.same("two in one hour", y.passHour(0, 0), 2);
        Check.same("none", y.passHour(0, 0), 0);
    }

    private static void p52OrderWithinAnHour() {
        // The premium of hour 24 goes to the reserve before the payment of that hour.
        WeatherInsurance x = new WeatherInsurance();
        Check.setup(x, "holder a 12;assessor 0;reserve 0;");
        Check.script(x, "kite a 22 1 80 5 9;kite a 30 1 320 0 0;hours 23 0 0;claim 0;");
        Check.same("no money left", x.reserve(), 3 + 9);
        Check.same("balance", x.balance(0), 0);
        x.deposit(0, 9);
        Check.pass(x, 1, 0, 0);
        Check.same("one hour passed", x.clock(), 24);
        Check.same("decided in hour 24", x.passHour(0, 0), 1);
        Check.same("premium paid first", x.hasLapsed(1), false);
        Check.same("reserve of 21 does not suffice for 80", x.openPayments(), 80);
        // A payment of hour 24 comes too late for the premium of hour 24.
        WeatherInsurance y = new WeatherInsurance();
        Check.setup(y, "holder a 12;assessor 0;reserve 500;");
        Check.script(y, "kite a 22 1 80 5 9;kite a 30 1 320 0 0;hours 23 0 0;claim 0;hours 1 0 0;");
        Check.same("decided", y.passHour(0, 0), 1);
        Check.same("paid", y.balance(0), 80);
        Check.same("lapsed", y.hasLapsed(1), true);
        // In the order of the policies: the first takes the money.
        WeatherInsurance z = new WeatherInsurance();
        Check.setup(z, "holder a 14;assessor 0;");
        Check.script(z, "kite a 30 1 80 0 0;kite a 30 1 120 0 0;kite a 30 1 40 0 0;hours 25 0 0;");
        Check.same("5 left: the first is paid 3", z.hasLapsed(0), false);
        Check.same("2 left: the second lapses", z.hasLapsed(1), true);
        Check.same("2 left: the third is paid 2", z.hasLapsed(2), false);
        Check.same("nothing left", z.balance(0), 0);
        decisionsInTheOrderOfTheAssessors();
    }

    private static void decisionsInTheOrderOfTheAssessors() {
        WeatherInsurance x = new WeatherInsurance();
        Check.setup(x, "holder a 99;assessor 1;assessor 0;reserve 0;");
        Check.script(x, "kite a 0 1 400 5 9;picnic a 0 1 400 0;hours 1 0 50;claim 0;");
        x.passHour(0, 0);
        x.fileClaim(1);
        Check.pass(x, 1, 0, 0);
        Check.same("two decided at once", x.passHour(0, 0), 2);
        Check.same("the first assessor's first", x.nextPayment(), 0);
        WeatherInsurance y = new WeatherInsurance();
        Check.setup(y, "holder a 999;assessor 9;assessor 0;assessor 7;reserve 0;");
        Check.script(y, "kite a 0 1 1 0 0;picnic a 0 1 500 0;kite a 1 1 500 5 9;picnic a 1 1 500 0;hours 2 0 50;"
            + "claim 0;claim 1;claim 2;hours 9 0 0;claim 3;hours 2 0 0;");
        // assessor 2 decided claim 2 after nine hours, assessor 0 claim 0 and assessor 1 claim 3 after eleven
        Check.same("claim 0 is denied", y.isDenied(0), true);
        Check.same("claim 3 was for the free assessor", y.assessorOf(3), 1);
        Check.same("open: 500 + 325 + 500", y.openPayments(), 1325);
    }

    private static void p53BuyKite() {
        WeatherInsurance x = new WeatherInsurance();
        Check.same("first policy", x.buyKite(1, 0, 1, 1, 0, 150), 0);
        Check.same("second policy", x.buyKite(0, 1000, 24, 1, 150, 150), 1);
        x.passHour(0, 0);
        Check.outOfBounds("holder -1", () -> x.buyKite(-1, -1, 0, 0, -1, 0));
        Check.outOfBounds("holder 3", () -> x.buyKite(3, 1, 1, 1, 0, 0));
        Check.badArgument("first has passed", () -> x.buyKite(0, 0, 1, 1, 0, 0));
        Check.badArgument("first 1001", () -> x.buyKite(0, 1001, 1, 1, 0, 0));
        Check.badArgument("hours 0", () -> x.buyKite(0, 1, 0, 1, 0, 0));
        Check.badArgument("hours 25", () -> x.buyKite(0, 1, 25, 1, 0, 0));
        Check.badArgument("cover 0", () -> x.buyKite(0, 1, 1, 0, 0, 0));
        Check.badArgument("cover 501", () -> x.buyKite(0, 1, 1, 501, 0, 0));
        Check.badArgument("minWind -1", () -> x.buyKite(0, 1, 1, 1, -1, 0));
        Check.badArgument("minWind 151", () -> x.buyKite(0, 1, 1, 1, 151, 151));
        Check.badArgument("maxWind 151", () -> x.buyKite(0, 1, 1, 1, 0, 151));
        Check.badArgument("maxWind -1", () -> x.buyKite(0, 1, 1, 1, 0, -1));
        Check.badArgument("minWind above maxWind", () -> x.buyKite(0, 1, 1, 1, 5, 4));
        Check.badState("balance 59, premium 61", () -> x.buyKite(1, 1, 24, 100, 0, 0));
        Check.badArgument("a wrong number comes before the balance", () -> x.buyKite(1, 0, 24, 100, 0, 0));
        Check.same("policies", x.policyCount(), 2);
        Check.same("changes", x.undo(), 2);
        x.passHour(0, 0);
        Check.same("the balance just suffices", x.buyKite(1, 1, 5, 464, 0, 0), 2);
        Check.same("balance", x.balance(1), 0);
        Check.same("reserve", x.reserve(), 300 + 1 + 1 + 59);
        while (x.policyCount() < 20) {
            x.buyKite(2, 1, 1, 1, 0, 0);
        }
        Check.badState("policy 21", () -> x.buyKite(2, 1, 1, 1, 0, 0));
        Check.badArgument("wrong number and policy 21", () -> x.buyKite(2, 1, 1, 1, 0, 151));
        Check.outOfBounds("wrong holder and policy 21", () -> x.buyKite(8, 1, 1, 1, 0, 151));
    }

    private static void p54BuyPicnic() {
        WeatherInsurance x = new WeatherInsurance();
        Check.same("first policy", x.buyPicnic(1, 0, 1, 1, 50), 0);
        Check.same("second policy", x.buyPicnic(0, 1000, 24, 1, 0), 1);
        Check.same("balance", x.balance(0), 200 - 2);
        x.passHour(0, 0);
        Check.outOfBounds("holder -1", () -> x.buyPicnic(-1, 0, 0, 0, -1));
        Check.outOfBounds("holder 3", () -> x.buyPicnic(3, 1, 1, 1, 0));
        Check.badArgument("first has passed", () -> x.buyPicnic(0, 0, 1, 1, 0));
        Check.badArgument("first 1001", () -> x.buyPicnic(0, 1001, 1, 1, 0));
        Check.badArgument("hours 0", () -> x.buyPicnic(0, 1, 0, 1, 0));
        Check.badArgument("hours 25", () -> x.buyPicnic(0, 1, 25, 1, 0));
        Check.badArgument("cover 0", () -> x.buyPicnic(0, 1, 1, 0, 0));
        Check.badArgument("cover 501", () -> x.buyPicnic(0, 1, 1, 501, 0));
        Check.badArgument("limit -1", () -> x.buyPicnic(0, 1, 1, 1, -1));
        Check.badArgument("limit 51", () -> x.buyPicnic(0, 1, 1, 1, 51));
        Check.badArgument("limit -10", () -> x.buyPicnic(0, 1, 1, 1, -10));
        Check.badState("balance 59, premium 60", () -> x.buyPicnic(1, 1, 5, 236, 0));
        Check.same("the balance just suffices", x.buyPicnic(1, 1, 5, 235, 0), 2);
        Check.same("undone", x.undo(), 3);
        Check.same("the balance is back", x.balance(1), 59);
        Check.same("bought again", x.buyPicnic(1, 1, 5, 235, 0), 2);
        Check.same("nothing left", x.balance(1), 0);
        while (x.policyCount() < 20) {
            x.buyPicnic(2, 1, 1, 1, 0);
        }
        Check.badState("policy 21", () -> x.buyPicnic(2, 1, 1, 1, 0));
        Check.badArgument("wrong number and policy 21", () -> x.buyPicnic(2, 1, 1, 1, 51));
    }

    private static void p55FileClaim() {
        WeatherInsurance x = new WeatherInsurance();
        Check.script(x, "kite ann 0 2 10 5 9;kite ann 0 1 10 5 9;picnic ann 0 1 10 0;picnic bob 30 5 200 0;picnic bob 0 1 1 0;");
        Check.badState("not over", () -> x.fileClaim(0));
        Check.pass(x, 1, 0, 0);
        Check.same("first claim", x.fileClaim(1), 0);
        Check.badState("claimed", () -> x.fileClaim(1));
        Check.pass(x, 1, 0, 0);
        Check.badState("duplicate", () -> x.fileClaim(0));
        Check.same("second claim", x.fileClaim(2), 1);
        Check.same("for the other assessor", x.assessorOf(1), 1);
        Check.pass(x, 23, 0, 0);
        Check.badState("lapsed", () -> x.fileClaim(3));
        Check.pass(x, 49, 0, 0);
        Check.badState("too late", () -> x.fileClaim(4));
        Check.same("claims", x.claimCount(), 2);
        Check.outOfBounds("no such policy", () -> x.fileClaim(5));
    }

    private static void p56Deposit() {
        WeatherInsurance x = new WeatherInsurance();
        Check.same("one", x.deposit(0, 1), 201);
        Check.same("999", x.deposit(1, 999), 1059);
        Check.same("balance", x.balance(1), 1059);
        Check.badArgument("nothing", () -> x.deposit(0, 0));
        Check.badArgument("1000", () -> x.deposit(0, 1000));
        Check.badArgument("negative", () -> x.deposit(0, -1));
        Check.outOfBounds("holder -1", () -> x.deposit(-1, 0));
        Check.outOfBounds("holder 3", () -> x.deposit(3, 1));
        Check.same("deposits", x.totalDeposits(), 1000);
        Check.same("two changes", x.undo(), 1);
        Check.same("undone", x.totalDeposits(), 1);
    }

    private static void p57Undo() {
        WeatherInsurance x = new WeatherInsurance();
        x.buyKite(0, 0, 1, 100, 5, 9);
        x.passHour(0, 0);
        x.fileClaim(0);
        x.passHour(1, 1);
        x.passHour(2, 2);
        x.deposit(0, 5);
        Check.same("paid", x.balance(0), 200 - 3 + 100 + 5);
        Check.same("undo the deposit", x.undo(), 5);
        Check.same("balance", x.balance(0), 297);
        Check.same("undo the decision", x.undo(), 4);
        Check.same("undecided again", x.isUndecided(0), true);
        Check.same("not paid", x.isPaid(0), false);
        Check.same("no amount", x.grantedAmount(0), 0);
        Check.same("balance", x.balance(0), 197);
        Check.same("reserve", x.reserve(), 303);
        Check.same("total", x.totalPaid(), 0);
        Check.same("one hour of work is left", x.hoursUntilDecision(0), 1);
        Check.outOfBounds("the hour is to come", () -> x.wind(2));
        Check.same("undo the hour", x.undo(), 3);
        Check.same("undo the claim", x.undo(), 2);
        Check.same("no claim", x.claimCount(), 0);
        Check.same("it can be filed", x.claimObstacle(0), WeatherInsurance.MAY_CLAIM);
        Check.same("undo the first hour", x.undo(), 1);
        Check.same("clock", x.clock(), 0);
        Check.same("undo the purchase", x.undo(), 0);
        Check.same("no policy", x.policyCount(), 0);
        Check.same("no premium", x.totalPremiums(), 0);
        Check.noElement("no more", x::undo);
        x.buyPicnic(1, 0, 2, 50, 7);
        x.passHour(33, 44);
        Check.same("other policy", x.isKite(0), false);
        Check.same("other holder", x.holderOf(0), 1);
        Check.same("other weather", x.wind(0), 33);
        lapseUndone();
    }

    private static void lapseUndone() {
        WeatherInsurance x = new WeatherInsurance();
        Check.script(x, "picnic bob 30 5 200 0;hours 24 0 0;");
        x.passHour(0, 0);
        Check.same("lapsed", x.hasLapsed(0), true);
        x.undo();
        Check.same("not lapsed any more", x.hasLapsed(0), false);
        x.passHour(0, 0);
        x.undo();
        x.undo();
        x.buyKite(0, 0, 1, 1, 0, 0);
        Check.same("a new policy has not lapsed", x.hasLapsed(0), false);
    }

    private static void p57EightChanges() {
        WeatherInsurance x = new WeatherInsurance();
        for (int i = 0; i < 11; i++) {
            x.passHour(i, 0);
        }
        for (int left = 7; left >= 0; left--) {
            Check.same("undo down to " + left, x.undo(), left);
        }
        Check.same("three hours cannot be undone", x.clock(), 3);
        Check.noElement("only eight", x::undo);
        x.deposit(0, 1);
        Check.same("one more", x.undo(), 0);
    }

    private static void p57WhatUndoLeaves() {
        WeatherInsurance x = new WeatherInsurance();
        Check.script(x, "kite ann 0 1 9 5 9;hours 1 0 0;claim 0;");
        x.saveState();
        x.passHour(0, 0);
        x.writeClaim(0);
        Check.script(x, "nonsense");
        x.appendInput(0, 0, 0, 0, 0);
        Check.same("undo", x.undo(), 1);
        Check.same("undo again", x.undo(), 0);
        Check.same("the input stays", x.appendInput(0, 0, 0, 0, 0), 40);
        Check.same("the error stays", x.errorCode(), WeatherInsurance.SYNTAX);
        Check.same("the offset stays", x.errorOffset(), 0);
        Check.same("the output stays", Check.output(x), "ann/k?");
        Check.same("the saved state stays", x.restoreState(), 1);
        Check.same("with its claim", x.claimCount(), 1);
    }

    private static void p58WriteClaim() {
        WeatherInsurance x = new WeatherInsurance();
        Check.setup(x, "holder abcdef 900;holder g 5;assessor 0;reserve 0;");
        Check.script(x, "picnic abcdef 0 1 500 0;kite g 0 1 100 5 9;kite g 0 1 9 0 0;kite g 1 1 5 0 9;hours 2 0 50;claim 0;claim 1;claim 3;");
        Check.same("undecided picnic", Check.written(x, 0), "abcdef/p?");
        Check.same("undecided kite", Check.written(x, 1), "g/k?");
        Check.pass(x, 4, 0, 0);
        Check.same("granted", Check.written(x, 0), "abcdef/p+500");
        Check.same("granted kite", Check.written(x, 1), "g/k+100");
        Check.pass(x, 2, 0, 0);
        Check.same("denied", Check.written(x, 2), "g/k-");
        Check.same("a longer one replaces it", Check.written(x, 0), "abcdef/p+500");
        Check.same("paid, one digit", paid(5), "ann/k=5");
        Check.same("paid, two digits", paid(10), "ann/k=10");
        Check.same("paid, 99", paid(99), "ann/k=99");
        Check.same("paid, three digits", paid(100), "ann/k=100");
        Check.same("paid, with zeros", paid(205), "ann/k=205");
        Check.outOfBounds("no such claim", () -> x.writeClaim(3));
        Check.same("the output stays", Check.output(x), "abcdef/p+500");
    }

    private static String paid(int cover) {
        WeatherInsurance x = new WeatherInsurance();
        Check.script(x, "kite ann 0 1 " + cover + " 5 9;hours 1 0 0;claim 0;hours 2 0 0;");
        return Check.written(x, 0);
    }

    private static void p59OutputByte() {
        WeatherInsurance x = new WeatherInsurance();
        Check.same("nothing written", x.outputByte(0), WeatherInsurance.NONE);
        Check.script(x, "kite ann 0 1 9 5 9;hours 1 0 0;claim 0;");
        Check.same("length", x.writeClaim(0), 6);
        Check.same("first", x.outputByte(0), (int) 'a');
        Check.same("slash", x.outputByte(3), 47);
        Check.same("kind", x.outputByte(4), 107);
        Check.same("last", x.outputByte(5), 63);
        Check.same("behind the last", x.outputByte(6), WeatherInsurance.NONE);
        Check.same("negative", x.outputByte(-1), WeatherInsurance.NONE);
        Check.same("least", x.outputByte(Integer.MIN_VALUE), WeatherInsurance.NONE);
        Check.same("greatest", x.outputByte(Integer.MAX_VALUE), WeatherInsurance.NONE);
        Check.pass(x, 2, 0, 0);
        Check.same("the output does not follow the claim", x.outputByte(5), 63);
    }

    private static void p60p61SaveAndRestore() {
        WeatherInsurance x = new WeatherInsurance();
        Check.noElement("nothing saved", x::restoreState);
        Check.script(x, "kite ann 0 1 100 5 9;picnic bob 30 5 200 0;hours 1 0 0;claim 0;deposit cid 7;");
        Check.same("save", x.saveState(), 1);
        Check.same("saving is no change and keeps the changes", x.undo(), 0);
        Check.same("clock", x.clock(), 0);
        Check.noElement("no more", x::undo);
        x.buyPicnic(2, 3, 3, 3, 3);
        x.passHour(9, 9);
        Check.same("restore", x.restoreState(), 1);
        Check.noElement("no change afterwards", x::undo);
        Check.same("policies", x.policyCount(), 2);
        Check.same("kite", x.isKite(0), true);
        Check.same("holder", x.holderOf(0), 0);
        Check.same("wind", x.wind(0), 0);
        Check.same("claims", x.claimCount(), 1);
        Check.same("deposits", x.totalDeposits(), 7);
        Check.same("balance", x.balance(1), 9);
        Check.pass(x, 30, 0, 0);
        Check.same("lapsed meanwhile", x.hasLapsed(1), true);
        Check.same("paid meanwhile", x.isPaid(0), true);
        Check.same("it stays saved", x.restoreState(), 1);
        Check.same("not lapsed", x.hasLapsed(1), false);
        Check.same("undecided", x.isUndecided(0), true);
        Check.same("work to do", x.hoursUntilDecision(0), 2);
        x.passHour(0, 0);
        Check.same("save again", x.saveState(), 2);
        x.passHour(0, 0);
        Check.same("the later state replaced the former", x.restoreState(), 2);
        Check.same("one hour of work was saved", x.hoursUntilDecision(0), 1);
        x.passHour(0, 0);
        Check.same("a change after a restore", x.undo(), 0);
    }

    private static void p61RestoredWeather() {
        WeatherInsurance x = new WeatherInsurance();
        x.passHour(1, 2);
        x.passHour(3, 4);
        x.saveState();
        x.undo();
        x.undo();
        x.passHour(50, 40);
        x.passHour(60, 30);
        x.passHour(70, 20);
        Check.same("restore", x.restoreState(), 2);
        Check.same("wind 0", x.wind(0), 1);
        Check.same("rain 0", x.rain(0), 2);
        Check.same("wind 1", x.wind(1), 3);
        Check.same("rain 1", x.rain(1), 4);
        Check.outOfBounds("hour 2", () -> x.wind(2));
        Check.script(x, "claim 0");
        x.appendInput(0, 0, 0, 0, 0);
        Check.same("restore again", x.restoreState(), 2);
        Check.same("the input stays", x.truncateInput(20), true);
        Check.same("the error stays", x.errorOffset(), 7);
    }

    private static void p61RestoredPolicies() {
        WeatherInsurance x = new WeatherInsurance();
        Check.setup(x, "holder a 900;holder b 900;assessor 0;assessor 2;reserve 0;");
        Check.script(x, "kite a 0 1 500 5 9;picnic b 1 2 60 7;picnic a 1 2 500 45;hours 1 3 50;hours 1 3 50;hours 1 9 1;");
        x.fileClaim(2);
        x.fileClaim(1);
        x.fileClaim(0);
        Check.pass(x, 1, 0, 0);
        x.passHour(0, 0);
        String before = policiesAndClaims(x);
        x.saveState();
        for (int left = 5; left >= 0; left--) {
            Check.same("undo down to " + left, x.undo(), left);
        }
        Check.same("no policy is left", x.policyCount(), 0);
        x.buyPicnic(1, 0, 2, 33, 22);
        x.buyKite(0, 0, 3, 44, 120, 130);
        x.buyKite(0, 1, 1, 55, 9, 9);
        Check.pass(x, 3, 9, 7);
        x.fileClaim(1);
        x.fileClaim(0);
        x.restoreState();
        Check.same("all of the saved state", policiesAndClaims(x), before);
        Check.same("its next payment", x.nextPayment(), 0);
        Check.same("its open payments", x.openPayments(), 300);
        x.passHour(0, 0);
        x.passHour(0, 0);
        Check.same("granted in the order of decisions", x.openPayments(), 300 + 54 + 500);
        x.saveState();
        Check.setup(x, "holder c 5;assessor 1;");
        Check.noElement("a setup drops the saved state", x::restoreState);
        Check.same("consistent", x.isConsistent(), true);
    }

    private static void p61RestoredOrderOfPayments() {
        WeatherInsurance x = new WeatherInsurance();
        Check.setup(x, "holder a 99;assessor 9;assessor 0;reserve 0;");
        Check.script(x, "kite a 0 1 400 5 9;picnic a 0 1 400 0;hours 1 0 50;");
        Check.script(x, "claim 0;claim 1;hours 2 0 0;");
        x.saveState();
        x.undo();
        Check.script(x, "claim 0;hours 11 0 0;");
        Check.same("the only claim", x.nextPayment(), 0);
        x.restoreState();
        Check.same("the second claim was decided first", x.nextPayment(), 1);
        Check.pass(x, 9, 0, 0);
        Check.same("and still is", x.nextPayment(), 1);
        Check.same("both are open", x.openPayments(), 400 + 220);
    }

    private static String policiesAndClaims(WeatherInsurance x) {
        StringBuilder all = new StringBuilder();
        for (int policy = 0; policy < x.policyCount(); policy++) {
            all.append(x.isKite(policy)).append(' ').append(x.holderOf(policy)).append(' ').append(x.firstHour(policy))
                .append(' ').append(x.insuredHours(policy)).append(' ').append(x.cover(policy)).append(' ')
                .append(x.premium(policy)).append(' ').append(x.damage(policy)).append(' ')
                .append(x.claimObstacle(policy)).append('\n');
        }
        for (int claim = 0; claim < x.claimCount(); claim++) {
            all.append(x.policyOf(claim)).append(' ').append(x.assessorOf(claim)).append(' ')
                .append(x.grantedAmount(claim)).append(' ').append(x.hoursUntilDecision(claim)).append('\n');
        }
        return all.toString();
    }
}
