/** Promises 8 to 48: what holders, policies, claims, assessors and sums answer. */
public final class QueryTest {
    public static void main(String[] args) {
        p08p09p10Basics();
        p11NameByte();
        p12p13BalanceAndDailyPremiums();
        p14p15Weather();
        p16To22Policies();
        p23p24ActiveAndLapsed();
        p25DamageOfKites();
        p25DamageOfPicnics();
        p26ClaimObstacle();
        p26SmallestObstacle();
        p27To33Claims();
        p34To37Assessors();
        p38p39Payments();
        p38ReserveTooSmallForTheFirst();
        p40To46Sums();
        p43Luckiest();
        p47KitePremium();
        p48PicnicPremium();
        Check.end();
    }

    private static void p08p09p10Basics() {
        WeatherInsurance x = new WeatherInsurance();
        Check.same("clock", x.clock(), 0);
        Check.pass(x, 5, 1, 1);
        Check.same("clock after five", x.clock(), 5);
        x.buyKite(0, 5, 1, 40, 0, 1);
        Check.same("reserve after a premium", x.reserve(), 302);
        x.deposit(0, 10);
        Check.same("reserve after a deposit", x.reserve(), 302);
        Check.same("holders", x.holderCount(), 3);
        Check.setup(x, "holder a 1;assessor 1;");
        Check.same("one holder", x.holderCount(), 1);
    }

    private static void p11NameByte() {
        WeatherInsurance x = new WeatherInsurance();
        Check.setup(x, "holder abcxyz 1;holder q 2;assessor 1;");
        Check.same("first letter", x.nameByte(0, 0), (int) 'a');
        Check.same("last letter", x.nameByte(0, 5), (int) 'z');
        Check.same("behind the last", x.nameByte(0, 6), WeatherInsurance.NONE);
        Check.same("behind a short name", x.nameByte(1, 1), WeatherInsurance.NONE);
        Check.same("a short name", x.nameByte(1, 0), (int) 'q');
        Check.same("negative index", x.nameByte(0, -1), WeatherInsurance.NONE);
        Check.same("great index", x.nameByte(1, Integer.MAX_VALUE), WeatherInsurance.NONE);
        Check.outOfBounds("holder 2", () -> x.nameByte(2, 0));
        Check.outOfBounds("holder -1", () -> x.nameByte(-1, 99));
    }

    private static void p12p13BalanceAndDailyPremiums() {
        WeatherInsurance x = new WeatherInsurance();
        x.buyKite(0, 0, 2, 100, 0, 1);
        x.buyPicnic(0, 30, 1, 60, 5);
        x.buyKite(1, 30, 1, 40, 0, 1);
        Check.same("balance 0", x.balance(0), 200 - 6 - 3);
        Check.same("balance 1", x.balance(1), 58);
        Check.same("two policies", x.dailyPremiums(0), 9);
        Check.same("one policy", x.dailyPremiums(1), 2);
        Check.same("no policy", x.dailyPremiums(2), 0);
        Check.pass(x, 1, 0, 0);
        Check.same("the last insured hour", x.dailyPremiums(0), 9);
        Check.pass(x, 1, 0, 0);
        Check.same("one has expired", x.dailyPremiums(0), 3);
        for (int holder : new int[] {-1, 3, 8, Integer.MIN_VALUE, Integer.MAX_VALUE}) {
            Check.outOfBounds("balance of " + holder, () -> x.balance(holder));
            Check.outOfBounds("daily premiums of " + holder, () -> x.dailyPremiums(holder));
        }
    }

    private static void p14p15Weather() {
        WeatherInsurance x = new WeatherInsurance();
        Check.outOfBounds("wind of the first hour", () -> x.wind(0));
        Check.outOfBounds("rain of the first hour", () -> x.rain(0));
        x.passHour(150, 50);
        x.passHour(0, 7);
        Check.same("wind 0", x.wind(0), 150);
        Check.same("rain 0", x.rain(0), 50);
        Check.same("wind 1", x.wind(1), 0);
        Check.same("rain 1", x.rain(1), 7);
        for (int hour : new int[] {-1, 2, 1000, Integer.MIN_VALUE, Integer.MAX_VALUE}) {
            Check.outOfBounds("wind of " + hour, () -> x.wind(hour));
            Check.outOfBounds("rain of " + hour, () -> x.rain(hour));
        }
        Check.pass(x, 998, 3, 4);
        Check.same("wind 999", x.wind(999), 3);
        Check.same("rain 999", x.rain(999), 4);
        Check.outOfBounds("wind of 1000", () -> x.wind(1000));
    }

    private static void p16To22Policies() {
        WeatherInsurance x = new WeatherInsurance();
        Check.same("no policy", x.policyCount(), 0);
        x.buyKite(2, 7, 24, 500, 20, 60);
        x.buyPicnic(1, 1000, 1, 1, 50);
        Check.same("policies", x.policyCount(), 2);
        Check.same("isKite 0", x.isKite(0), true);
        Check.same("isKite 1", x.isKite(1), false);
        Check.same("holderOf 0", x.holderOf(0), 2);
        Check.same("holderOf 1", x.holderOf(1), 1);
        Check.same("firstHour 0", x.firstHour(0), 7);
        Check.same("firstHour 1", x.firstHour(1), 1000);
        Check.same("insuredHours 0", x.insuredHours(0), 24);
        Check.same("insuredHours 1", x.insuredHours(1), 1);
        Check.same("cover 0", x.cover(0), 500);
        Check.same("cover 1", x.cover(1), 1);
        Check.same("premium 0", x.premium(0), 301);
        Check.same("premium 1", x.premium(1), 1);
        x.undo();
        for (int policy : new int[] {-1, 1, 20, Integer.MIN_VALUE, Integer.MAX_VALUE}) {
            Check.outOfBounds("isKite " + policy, () -> x.isKite(policy));
            Check.outOfBounds("holderOf " + policy, () -> x.holderOf(policy));
            Check.outOfBounds("firstHour " + policy, () -> x.firstHour(policy));
            Check.outOfBounds("insuredHours " + policy, () -> x.insuredHours(policy));
            Check.outOfBounds("cover " + policy, () -> x.cover(policy));
            Check.outOfBounds("premium " + policy, () -> x.premium(policy));
            Check.outOfBounds("isActive " + policy, () -> x.isActive(policy));
            Check.outOfBounds("hasLapsed " + policy, () -> x.hasLapsed(policy));
            Check.outOfBounds("damage " + policy, () -> x.damage(policy));
            Check.outOfBounds("claimObstacle " + policy, () -> x.claimObstacle(policy));
            Check.outOfBounds("hoursUntilLapse " + policy, () -> x.hoursUntilLapse(policy));
            Check.outOfBounds("fileClaim " + policy, () -> x.fileClaim(policy));
        }
    }

    private static void p23p24ActiveAndLapsed() {
        WeatherInsurance x = new WeatherInsurance();
        x.buyPicnic(1, 30, 5, 200, 0);
        x.buyKite(0, 2, 3, 10, 0, 9);
        Check.same("active before it starts", x.isActive(0), true);
        Check.pass(x, 4, 0, 0);
        Check.same("active in its last hour", x.isActive(1), true);
        Check.pass(x, 1, 0, 0);
        Check.same("expired", x.isActive(1), false);
        Check.same("expired, not lapsed", x.hasLapsed(1), false);
        Check.pass(x, 19, 0, 0);
        Check.same("active at 24", x.isActive(0), true);
        Check.same("not lapsed at 24", x.hasLapsed(0), false);
        Check.pass(x, 1, 0, 0);
        Check.same("not active at 25", x.isActive(0), false);
        Check.same("lapsed at 25", x.hasLapsed(0), true);
        Check.pass(x, 40, 0, 0);
        Check.same("still lapsed after its expiry", x.hasLapsed(0), true);
        Check.same("one has lapsed", x.lapsedCount(), 1);
    }

    private static void p25DamageOfKites() {
        WeatherInsurance x = new WeatherInsurance();
        x.buyKite(0, 1, 3, 100, 20, 60);
        x.passHour(0, 0);
        Check.same("an hour before the first", x.damage(0), 0);
        x.passHour(19, 0);
        Check.same("below the least", x.damage(0), 33);
        x.passHour(20, 50);
        Check.same("the least", x.damage(0), 33);
        x.passHour(61, 0);
        Check.same("above the greatest", x.damage(0), 66);
        x.passHour(150, 0);
        Check.same("an hour after the last", x.damage(0), 66);
        x.buyKite(0, 5, 1, 500, 60, 60);
        x.passHour(60, 0);
        Check.same("the greatest", x.damage(1), 0);
        x.buyKite(0, 6, 2, 7, 1, 1);
        x.passHour(0, 0);
        Check.same("rounded down", x.damage(2), 3);
        x.passHour(2, 0);
        Check.same("all hours", x.damage(2), 7);
    }

    private static void p25DamageOfPicnics() {
        WeatherInsurance x = new WeatherInsurance();
        x.buyPicnic(0, 1, 3, 65, 5);
        x.passHour(0, 50);
        Check.same("an hour before the first", x.damage(0), 0);
        x.passHour(0, 5);
        Check.same("the limit", x.damage(0), 0);
        x.passHour(0, 1);
        Check.same("rounded down", x.damage(0), 6);
        x.passHour(99, 8);
        Check.same("the sum of three hours", x.damage(0), 58);
        x.passHour(0, 50);
        Check.same("an hour after the last", x.damage(0), 58);
        x.buyPicnic(1, 5, 2, 65, 0);
        x.passHour(0, 10);
        Check.same("just the cover", x.damage(1), 65);
        x.passHour(0, 50);
        Check.same("not more than the cover", x.damage(1), 65);
    }

    private static void p26ClaimObstacle() {
        WeatherInsurance x = new WeatherInsurance();
        x.buyKite(0, 0, 2, 100, 20, 60);
        x.buyKite(0, 0, 1, 100, 20, 60);
        x.buyPicnic(0, 0, 1, 100, 0);
        x.buyKite(1, 0, 1, 100, 20, 60);
        x.buyKite(0, 1, 1, 100, 20, 60);
        Check.pass(x, 1, 0, 0);
        Check.same("not over", x.claimObstacle(0), WeatherInsurance.NOT_OVER);
        Check.same("over", x.claimObstacle(1), WeatherInsurance.MAY_CLAIM);
        Check.pass(x, 1, 0, 0);
        Check.same("both are over", x.claimObstacle(0), WeatherInsurance.MAY_CLAIM);
        x.fileClaim(0);
        Check.same("claimed", x.claimObstacle(0), WeatherInsurance.ALREADY_CLAIMED);
        Check.same("duplicate", x.claimObstacle(1), WeatherInsurance.DUPLICATE);
        Check.same("another kind", x.claimObstacle(2), WeatherInsurance.MAY_CLAIM);
        Check.same("another holder", x.claimObstacle(3), WeatherInsurance.MAY_CLAIM);
        Check.same("another first hour", x.claimObstacle(4), WeatherInsurance.MAY_CLAIM);
        Check.pass(x, 71, 0, 0);
        Check.same("72 hours past the expiry", x.claimObstacle(2), WeatherInsurance.MAY_CLAIM);
        x.passHour(0, 0);
        Check.same("73 hours past the expiry", x.claimObstacle(2), WeatherInsurance.TOO_LATE);
        Check.same("72 hours past a later expiry", x.claimObstacle(4), WeatherInsurance.MAY_CLAIM);
    }

    private static void p26SmallestObstacle() {
        WeatherInsurance x = new WeatherInsurance();
        x.buyPicnic(1, 30, 5, 200, 0);
        x.buyKite(0, 0, 1, 10, 0, 0);
        x.buyKite(0, 0, 2, 10, 0, 0);
        Check.pass(x, 2, 1, 0);
        x.fileClaim(1);
        Check.pass(x, 23, 1, 0);
        Check.same("lapsed before it is over", x.claimObstacle(0), WeatherInsurance.LAPSED);
        Check.pass(x, 48, 1, 0);
        Check.same("at 73: claimed", x.claimObstacle(1), WeatherInsurance.ALREADY_CLAIMED);
        Check.pass(x, 1, 1, 0);
        Check.same("too late and claimed", x.claimObstacle(1), WeatherInsurance.TOO_LATE);
        Check.same("at 74: duplicate", x.claimObstacle(2), WeatherInsurance.DUPLICATE);
        Check.pass(x, 1, 1, 0);
        Check.same("too late and duplicate", x.claimObstacle(2), WeatherInsurance.TOO_LATE);
        Check.pass(x, 60, 1, 0);
        Check.same("lapsed and too late", x.claimObstacle(0), WeatherInsurance.LAPSED);
    }

    private static void p27To33Claims() {
        WeatherInsurance x = new WeatherInsurance();
        Check.setup(x, "holder a 500;assessor 0;assessor 3;reserve 0;");
        x.buyKite(0, 0, 1, 101, 5, 9);
        x.buyPicnic(0, 0, 1, 101, 0);
        x.passHour(0, 9);
        Check.same("no claim", x.claimCount(), 0);
        x.fileClaim(1);
        x.fileClaim(0);
        Check.same("claims", x.claimCount(), 2);
        Check.same("policyOf 0", x.policyOf(0), 1);
        Check.same("policyOf 1", x.policyOf(1), 0);
        Check.same("assessorOf 0", x.assessorOf(0), 0);
        Check.same("assessorOf 1", x.assessorOf(1), 1);
        Check.same("undecided", x.isUndecided(0), true);
        Check.same("nothing granted yet", x.grantedAmount(0), 0);
        Check.pass(x, 1, 0, 0);
        Check.same("still undecided", x.isUndecided(0), true);
        Check.pass(x, 1, 0, 0);
        Check.same("decided", x.isUndecided(0), false);
        Check.same("not denied", x.isDenied(0), false);
        Check.same("granted 90 of 101 * 9 / 10", x.grantedAmount(0), 90);
        Check.same("the reserve of 9 does not suffice", x.isPaid(0), false);
        Check.same("strictness 3: still undecided", x.isUndecided(1), true);
        Check.pass(x, 2, 0, 0);
        Check.same("strictness 3: after four hours", x.isUndecided(1), true);
        Check.pass(x, 1, 0, 0);
        Check.same("strictness 3: after five hours", x.isUndecided(1), false);
        Check.same("granted 101 - 15", x.grantedAmount(1), 86);
        for (int claim : new int[] {-1, 2, 20, Integer.MIN_VALUE, Integer.MAX_VALUE}) {
            Check.outOfBounds("policyOf " + claim, () -> x.policyOf(claim));
            Check.outOfBounds("assessorOf " + claim, () -> x.assessorOf(claim));
            Check.outOfBounds("isUndecided " + claim, () -> x.isUndecided(claim));
            Check.outOfBounds("isDenied " + claim, () -> x.isDenied(claim));
            Check.outOfBounds("isPaid " + claim, () -> x.isPaid(claim));
            Check.outOfBounds("grantedAmount " + claim, () -> x.grantedAmount(claim));
            Check.outOfBounds("hoursUntilDecision " + claim, () -> x.hoursUntilDecision(claim));
            Check.outOfBounds("writeClaim " + claim, () -> x.writeClaim(claim));
        }
        WeatherInsurance y = new WeatherInsurance();
        y.buyKite(0, 0, 1, 500, 0, 9);
        y.passHour(0, 0);
        y.fileClaim(0);
        Check.same("undecided is not denied", y.isDenied(0), false);
        Check.pass(y, 2, 0, 0);
        Check.same("denied", y.isDenied(0), true);
        Check.same("denied is not undecided", y.isUndecided(0), false);
        Check.same("denied is not paid", y.isPaid(0), false);
        Check.same("denied: 0", y.grantedAmount(0), 0);
    }

    private static void p34To37Assessors() {
        WeatherInsurance x = new WeatherInsurance();
        Check.setup(x, "holder a 999;assessor 5;assessor 0;assessor 9;");
        Check.same("assessors", x.assessorCount(), 3);
        Check.same("strictness 0", x.strictness(0), 5);
        Check.same("strictness 2", x.strictness(2), 9);
        Check.script(x, "kite a 0 1 1 0 0;picnic a 0 1 1 0;kite a 1 1 1 0 0;picnic a 1 1 1 0;hours 2 5 5;");
        Check.same("first", x.nextAssessor(), 0);
        x.fileClaim(0);
        Check.same("second", x.nextAssessor(), 1);
        x.fileClaim(1);
        Check.same("third", x.nextAssessor(), 2);
        x.fileClaim(2);
        Check.same("the smallest number in a tie", x.nextAssessor(), 0);
        Check.same("workload 0", x.workload(0), 1);
        x.fileClaim(3);
        Check.same("two claims", x.workload(0), 2);
        Check.same("the next", x.nextAssessor(), 1);
        Check.pass(x, 2, 0, 0);
        Check.same("the quick one is free", x.workload(1), 0);
        Check.same("the quick one is next", x.nextAssessor(), 1);
        Check.pass(x, 5, 0, 0);
        Check.same("one of two is decided", x.workload(0), 1);
        for (int assessor : new int[] {-1, 3, Integer.MIN_VALUE, Integer.MAX_VALUE}) {
            Check.outOfBounds("strictness " + assessor, () -> x.strictness(assessor));
            Check.outOfBounds("workload " + assessor, () -> x.workload(assessor));
        }
        WeatherInsurance y = new WeatherInsurance();
        Check.outOfBounds("only two assessors", () -> y.strictness(2));
    }

    private static void p38p39Payments() {
        WeatherInsurance x = new WeatherInsurance();
        Check.setup(x, "holder a 500;assessor 9;assessor 0;reserve 0;");
        Check.same("no payment", x.nextPayment(), WeatherInsurance.NONE);
        x.buyKite(0, 0, 1, 40, 5, 9);
        x.buyPicnic(0, 0, 1, 500, 0);
        x.passHour(0, 50);
        x.fileClaim(0);
        x.fileClaim(1);
        Check.same("undecided is not open", x.openPayments(), 0);
        Check.pass(x, 2, 0, 0);
        Check.same("the later claim was decided first", x.nextPayment(), 1);
        Check.same("open", x.openPayments(), 500);
        Check.pass(x, 9, 0, 0);
        Check.same("the first decided is paid first", x.nextPayment(), 1);
        Check.same("both are open", x.openPayments(), 522);
        Check.same("the small one must wait", x.isPaid(0), false);
        Check.same("the reserve would suffice for it", x.reserve(), 28);
    }

    private static void p38ReserveTooSmallForTheFirst() {
        WeatherInsurance x = new WeatherInsurance();
        Check.setup(x, "holder a 500;holder b 999;assessor 0;reserve 0;");
        x.buyKite(0, 0, 1, 40, 5, 9);
        x.buyPicnic(1, 0, 1, 100, 0);
        x.buyKite(0, 1, 1, 40, 5, 9);
        Check.pass(x, 2, 0, 50);
        x.fileClaim(1);
        x.fileClaim(0);
        x.fileClaim(2);
        Check.pass(x, 6, 0, 0);
        Check.same("three open", x.openPayments(), 180);
        Check.same("nothing paid", x.totalPaid(), 0);
        x.buyKite(1, 200, 24, 223, 0, 0);
        Check.same("enough for two", x.reserve(), 144);
        x.passHour(0, 0);
        Check.same("two in one hour", x.totalPaid(), 140);
        Check.same("the third waits", x.nextPayment(), 2);
        Check.same("open", x.openPayments(), 40);
        Check.same("balance 1", x.balance(1), 999 - 6 - 134 + 100);
        x.undo();
        x.undo();
        x.buyKite(1, 200, 24, 288, 0, 0);
        Check.same("enough for all", x.reserve(), 183);
        x.passHour(0, 0);
        Check.same("all paid", x.nextPayment(), WeatherInsurance.NONE);
        Check.same("nothing open", x.openPayments(), 0);
        Check.same("reserve", x.reserve(), 3);
        x.undo();
        x.undo();
        x.buyKite(1, 200, 24, 283, 0, 0);
        Check.same("just enough for all", x.reserve(), 180);
        x.passHour(0, 0);
        Check.same("the reserve is empty", x.reserve(), 0);
        Check.same("all paid again", x.totalPaid(), 180);
    }

    private static void p40To46Sums() {
        WeatherInsurance x = new WeatherInsurance();
        Check.same("no premiums", x.totalPremiums(), 0);
        Check.same("no ratio", x.lossRatio(), 0.0);
        Check.same("no part", x.grantedPart(), 0.0f);
        x.deposit(0, 999);
        x.deposit(2, 1);
        Check.same("deposits", x.totalDeposits(), 1000);
        x.buyKite(0, 0, 1, 100, 20, 60);
        x.buyPicnic(1, 0, 1, 100, 50);
        x.buyKite(2, 50, 1, 100, 20, 60);
        Check.same("premiums", x.totalPremiums(), 3 + 1 + 3);
        x.passHour(0, 0);
        x.fileClaim(0);
        x.fileClaim(1);
        Check.same("none decided", x.grantedPart(), 0.0f);
        Check.pass(x, 2, 0, 0);
        Check.same("paid", x.totalPaid(), 100);
        Check.same("ratio", x.lossRatio(), 100.0 / 7.0);
        Check.same("one of one", x.grantedPart(), 1.0f);
        Check.pass(x, 4, 0, 0);
        Check.same("one of two", x.grantedPart(), 0.5f);
        Check.pass(x, 18, 0, 0);
        Check.same("a day's premium", x.totalPremiums(), 10);
        Check.same("ratio later", x.lossRatio(), 10.0);
        Check.same("none has lapsed", x.lapsedCount(), 0);

        WeatherInsurance y = new WeatherInsurance();
        Check.setup(y, "holder a 3;assessor 0;reserve 0;");
        Check.script(y, "kite a 30 1 40 0 0;hours 25 0 0;deposit a 3;kite a 30 1 40 0 0;kite a 30 1 40 0 0;hours 24 0 0;");
        Check.same("premiums of the lapsed are not paid", y.totalPremiums(), 6);
        Check.same("one has lapsed", y.lapsedCount(), 1);
        Check.same("granted and unpaid counts as granted", grantedAndUnpaid(), 1.0f / 3.0f);
    }

    private static float grantedAndUnpaid() {
        WeatherInsurance x = new WeatherInsurance();
        Check.setup(x, "holder a 99;assessor 0;reserve 0;");
        Check.script(x, "kite a 0 1 400 5 9;kite a 1 1 40 0 0;picnic a 0 1 40 0;hours 2 0 0;claim 0;claim 1;claim 2;hours 6 0 0;");
        Check.same("not paid", x.isPaid(0), false);
        Check.same("granted", x.grantedAmount(0), 400);
        return x.grantedPart();
    }

    private static void p43Luckiest() {
        WeatherInsurance x = new WeatherInsurance();
        Check.same("nobody received anything", x.luckiestHolder(), 0);
        Check.script(x, "kite cid 0 1 50 5 9;picnic bob 0 1 50 0;kite bob 0 1 50 5 9;hours 1 0 50;claim 0;claim 1;hours 2 0 0;");
        Check.same("cid", x.luckiestHolder(), 2);
        Check.script(x, "claim 2;hours 2 0 0;");
        Check.same("a tie", x.luckiestHolder(), 1);
        Check.pass(x, 2, 0, 0);
        Check.same("bob has 90", x.luckiestHolder(), 1);
        WeatherInsurance y = new WeatherInsurance();
        Check.setup(y, "holder a 99;holder b 99;assessor 0;reserve 0;");
        Check.script(y, "kite b 0 1 400 5 9;hours 1 0 0;claim 0;hours 5 0 0;");
        Check.same("granted is not received", y.luckiestHolder(), 0);
    }

    private static void p47KitePremium() {
        WeatherInsurance x = new WeatherInsurance();
        Check.same("least", x.kitePremium(1, 1), 1);
        Check.same("39", x.kitePremium(1, 39), 1);
        Check.same("40", x.kitePremium(1, 40), 2);
        Check.same("greatest", x.kitePremium(24, 500), 301);
        Check.badArgument("hours 0", () -> x.kitePremium(0, 1));
        Check.badArgument("hours 25", () -> x.kitePremium(25, 1));
        Check.badArgument("cover 0", () -> x.kitePremium(1, 0));
        Check.badArgument("cover 501", () -> x.kitePremium(1, 501));
        Check.badArgument("far off", () -> x.kitePremium(Integer.MIN_VALUE, Integer.MAX_VALUE));
    }

    private static void p48PicnicPremium() {
        WeatherInsurance x = new WeatherInsurance();
        Check.same("least", x.picnicPremium(1, 1, 0), 1);
        Check.same("19", x.picnicPremium(1, 19, 0), 1);
        Check.same("20", x.picnicPremium(1, 20, 0), 2);
        Check.same("limit 50", x.picnicPremium(1, 120, 50), 2);
        Check.same("limit 50, 119", x.picnicPremium(1, 119, 50), 1);
        Check.same("greatest", x.picnicPremium(24, 500, 0), 601);
        Check.badArgument("hours 0", () -> x.picnicPremium(0, 1, 0));
        Check.badArgument("hours 25", () -> x.picnicPremium(25, 1, 0));
        Check.badArgument("cover 0", () -> x.picnicPremium(1, 0, 0));
        Check.badArgument("cover 501", () -> x.picnicPremium(1, 501, 0));
        Check.badArgument("limit -1", () -> x.picnicPremium(1, 1, -1));
        Check.badArgument("limit 51", () -> x.picnicPremium(1, 1, 51));
        Check.badArgument("limit -10", () -> x.picnicPremium(1, 1, -10));
    }
}
