/** The sentences of "Terms" on weather, holders, policies, hours, damage, claims and assessors. */
final class TermSentences {
    private static final int[] FAR = {Integer.MIN_VALUE, Integer.MIN_VALUE + 1, Integer.MAX_VALUE - 1, Integer.MAX_VALUE};
    private static final String EIGHT =
        "holder h 1;holder g 2;holder f 3;holder e 4;holder d 5;holder c 6;holder b 7;holder a 8;";

    private final Doc doc;

    TermSentences(Doc doc) {
        this.doc = doc;
    }

    void run() {
        weather();
        holders();
        policies();
        hours();
        damage();
        claims();
        assessors();
    }

    // ---- weather ----

    private void weather() {
        hoursBeginWith0();
        clockEndsWith1000();
        weatherHasRanges();
    }

    private void hoursBeginWith0() {
        doc.test("Weather", "Hours are numbered from 0.");
        WeatherInsurance x = new WeatherInsurance();
        x.passHour(7, 8);
        Check.same("wind of the first hour", x.wind(0), 7);
        Check.same("rain of the first hour", x.rain(0), 8);
        Check.outOfBounds("wind before the first hour", () -> x.wind(-1));
        Check.outOfBounds("rain before the first hour", () -> x.rain(-1));
        Check.outOfBounds("the second hour has not passed", () -> x.wind(1));
    }

    private void clockEndsWith1000() {
        doc.test("Weather", "The clock is the number of hours that have passed, at most 1000.");
        WeatherInsurance x = new WeatherInsurance();
        Check.same("no hour has passed", x.clock(), 0);
        Check.until(x, 999);
        Check.same("999 hours have passed", x.clock(), 999);
        Check.same("hour 1000 can pass", x.passHour(1, 2), 0);
        Check.same("1000 hours have passed", x.clock(), 1000);
        Check.badState("hour 1001 cannot pass", () -> x.passHour(0, 0));
        Check.same("nor in a script", Check.script(x, "hours 1 0 0;"), 0);
        Check.same("the clock stands", x.clock(), 1000);
        Check.same("the last hour keeps its wind", x.wind(999), 1);
        Check.same("the last hour keeps its rain", x.rain(999), 2);
    }

    private void weatherHasRanges() {
        doc.test("Weather",
            "Every hour that has passed has a recorded wind of 0 to 150 and a recorded rain of 0 to 50.");
        WeatherInsurance x = new WeatherInsurance();
        x.passHour(0, 50);
        x.passHour(150, 0);
        Check.same("least wind", x.wind(0), 0);
        Check.same("greatest rain", x.rain(0), 50);
        Check.same("greatest wind", x.wind(1), 150);
        Check.same("least rain", x.rain(1), 0);
        Check.badArgument("wind too small", () -> x.passHour(-1, 0));
        Check.badArgument("wind too large", () -> x.passHour(151, 0));
        Check.badArgument("rain too small", () -> x.passHour(0, -1));
        Check.badArgument("rain too large", () -> x.passHour(0, 51));
        for (int far : FAR) {
            Check.badArgument("wind " + far, () -> x.passHour(far, 0));
            Check.badArgument("rain " + far, () -> x.passHour(0, far));
        }
        Check.same("no other hour has passed", x.clock(), 2);
    }

    // ---- holders ----

    private void holders() {
        oneToEightHolders();
        namesAndBalances();
        namesDiffer();
        reserveAtFirst();
    }

    private void oneToEightHolders() {
        doc.test("Holders",
            "There are 1 to 8 holders, numbered from 0 in the order in which the setup names them.");
        Check.badSetup("assessor 1;", WeatherInsurance.TOO_FEW, 11);
        WeatherInsurance one = Check.with("holder b 1;assessor 0;");
        Check.same("one holder", one.holderCount(), 1);
        Check.outOfBounds("there is no second one", () -> one.balance(1));
        WeatherInsurance x = Check.with(EIGHT + "assessor 0;");
        Check.same("eight holders", x.holderCount(), 8);
        for (int holder = 0; holder < 8; holder++) {
            Check.same("name of " + holder, x.nameByte(holder, 0), 'h' - holder);
            Check.same("balance of " + holder, x.balance(holder), 1 + holder);
        }
        Check.outOfBounds("there is no ninth one", () -> x.balance(8));
        Check.badSetup(EIGHT + "holder i 1;assessor 0;", WeatherInsurance.TOO_MANY, EIGHT.length());
    }

    private void namesAndBalances() {
        doc.test("Holders", "A holder has a name of 1 to 6 lower-case letters and a balance, which is 0 to 9999 at first.");
        WeatherInsurance x = Check.with("holder a 0;holder zyxwvz 9999;assessor 0;");
        Check.same("a name of one letter", Check.name(x, 0), "a");
        Check.same("a name of six letters", Check.name(x, 1), "zyxwvz");
        Check.same("least balance", x.balance(0), 0);
        Check.same("greatest balance", x.balance(1), 9999);
        Check.same("later it may be greater", x.deposit(1, 999), 10998);
        Check.badSetup("holder 5;assessor 0;", WeatherInsurance.SYNTAX, 7);
        Check.badSetup("holder abcdefg 5;assessor 0;", WeatherInsurance.SYNTAX, 7);
        Check.badSetup("holder Abc 5;assessor 0;", WeatherInsurance.SYNTAX, 7);
        Check.badSetup("holder abC 5;assessor 0;", WeatherInsurance.SYNTAX, 9);
        Check.badSetup("holder a` 5;assessor 0;", WeatherInsurance.SYNTAX, 8);
        Check.badSetup("holder z{ 5;assessor 0;", WeatherInsurance.SYNTAX, 8);
        Check.badSetup("holder a 10000;assessor 0;", WeatherInsurance.SYNTAX, 9);
        Check.badSetup("holder a -1;assessor 0;", WeatherInsurance.SYNTAX, 9);
    }

    private void namesDiffer() {
        doc.test("Holders", "No two holders have the same name.");
        Check.badSetup("holder ab 1;holder abc 2;holder ab 3;assessor 0;", WeatherInsurance.BAD_NAME, 32);
        Check.badSetup("holder abcdef 1;holder abcdef 2;assessor 0;", WeatherInsurance.BAD_NAME, 23);
        WeatherInsurance x = Check.with("holder ab 1;holder abc 2;holder a 3;holder b 4;holder ac 5;assessor 0;");
        Check.same("a part of a name is another name", x.holderCount(), 5);
        Check.same("a name of the setup before is free", Check.setup(x, "holder ab 7;assessor 0;"), 1);
    }

    private void reserveAtFirst() {
        doc.test("Holders", "The insurer has a reserve, which is 0 to 9999 at first.");
        Check.same("least", Check.with("holder a 9;assessor 0;reserve 0;").reserve(), 0);
        WeatherInsurance x = Check.with("holder a 9;assessor 0;reserve 9999;");
        Check.same("greatest", x.reserve(), 9999);
        x.buyKite(0, 0, 1, 1, 0, 0);
        Check.same("later it may be greater", x.reserve(), 10000);
        Check.badSetup("holder a 9;assessor 0;reserve 10000;", WeatherInsurance.SYNTAX, 30);
    }

    // ---- policies ----

    private void policies() {
        twentyPolicies();
        doc.plain("Policies", "A policy is a kite policy or a picnic policy.", "A kite policy has a least wind and a greatest wind.");
        hoursAndCover();
        rainLimit();
        premiumOfKites();
        premiumOfPicnics();
        premiumsAreRoundedDown();
        purchaseCostsOnePremium();
        expiry();
    }

    private void twentyPolicies() {
        doc.test("Policies", "There are at most 20 policies, numbered from 0 in the order of their purchase.");
        WeatherInsurance x = new WeatherInsurance();
        for (int policy = 0; policy < 20; policy += 2) {
            Check.same("kite policy", x.buyKite(2, policy, 1, 1, 0, 0), policy);
            Check.same("picnic policy", x.buyPicnic(2, policy + 1, 1, 1, 0), policy + 1);
        }
        Check.same("twenty", x.policyCount(), 20);
        Check.same("the first", x.firstHour(0), 0);
        Check.same("the last", x.firstHour(19), 19);
        Check.badState("a kite policy too many", () -> x.buyKite(2, 20, 1, 1, 0, 0));
        Check.badState("a picnic policy too many", () -> x.buyPicnic(2, 20, 1, 1, 0));
        Check.same("nor in a script", Check.script(x, "kite cid 20 1 1 0 0;"), 0);
        Check.same("nor in a script", Check.script(x, "picnic cid 20 1 1 0;"), 0);
        Check.until(x, 40);
        Check.badState("policies that have expired count", () -> x.buyKite(2, 40, 1, 1, 0, 0));
        Check.same("still twenty", x.policyCount(), 20);
    }

    private void hoursAndCover() {
        doc.test("Policies", "It has a holder, a first insured hour, 1 to 24 insured hours and a cover of 1 to 500.");
        WeatherInsurance x = Check.with("holder a 9999;assessor 0;");
        Check.same("least kite policy", x.buyKite(0, 0, 1, 1, 0, 0), 0);
        Check.same("greatest kite policy", x.buyKite(0, 0, 24, 500, 0, 0), 1);
        Check.same("least picnic policy", x.buyPicnic(0, 0, 1, 1, 0), 2);
        Check.same("greatest picnic policy", x.buyPicnic(0, 0, 24, 500, 0), 3);
        Check.same("24 hours", x.insuredHours(1), 24);
        Check.same("a cover of 500", x.cover(3), 500);
        for (int hours : new int[] {0, 25, -1, Integer.MIN_VALUE, Integer.MAX_VALUE}) {
            Check.badArgument("kite policy of hours " + hours, () -> x.buyKite(0, 0, hours, 1, 0, 0));
            Check.badArgument("picnic policy of hours " + hours, () -> x.buyPicnic(0, 0, hours, 1, 0));
        }
        for (int cover : new int[] {0, 501, -1, Integer.MIN_VALUE, Integer.MAX_VALUE}) {
            Check.badArgument("kite policy of cover " + cover, () -> x.buyKite(0, 0, 1, cover, 0, 0));
            Check.badArgument("picnic policy of cover " + cover, () -> x.buyPicnic(0, 0, 1, cover, 0));
        }
        Check.same("four policies", x.policyCount(), 4);
    }

    private void rainLimit() {
        doc.test("Policies", "A picnic policy has a rain limit of 0 to 50.");
        WeatherInsurance x = new WeatherInsurance();
        x.buyPicnic(0, 0, 2, 10, 0);
        x.buyPicnic(0, 0, 2, 10, 50);
        for (int limit : new int[] {-1, 51, -10, Integer.MIN_VALUE, Integer.MAX_VALUE}) {
            Check.badArgument("rain limit " + limit, () -> x.buyPicnic(0, 0, 2, 10, limit));
        }
        Check.same("two policies", x.policyCount(), 2);
        x.passHour(0, 1);
        Check.same("more than 0", x.damage(0), 1);
        x.passHour(0, 49);
        Check.same("not more than 50", x.damage(1), 0);
    }

    private void premiumOfKites() {
        doc.test("Policies", "The premium of a kite policy is cover * hours / 40 + 1.");
        WeatherInsurance x = Check.with("holder a 9999;assessor 0;");
        x.buyKite(0, 0, 1, 1, 0, 0);
        x.buyKite(0, 0, 1, 40, 0, 0);
        x.buyKite(0, 0, 24, 500, 0, 0);
        Check.same("least", x.premium(0), 1);
        Check.same("1 * 40 / 40 + 1", x.premium(1), 2);
        Check.same("greatest", x.premium(2), 301);
        Check.same("computed", x.kitePremium(24, 500), 301);
    }

    private void premiumOfPicnics() {
        doc.test("Policies", "The premium of a picnic policy is cover * hours / (20 + 2 * limit) + 1.");
        WeatherInsurance x = Check.with("holder a 9999;assessor 0;");
        x.buyPicnic(0, 0, 1, 1, 50);
        x.buyPicnic(0, 0, 1, 20, 0);
        x.buyPicnic(0, 0, 24, 500, 0);
        x.buyPicnic(0, 0, 24, 500, 50);
        x.buyPicnic(0, 0, 2, 11, 1);
        Check.same("least", x.premium(0), 1);
        Check.same("20 / 20 + 1", x.premium(1), 2);
        Check.same("limit 0", x.premium(2), 601);
        Check.same("limit 50: 12000 / 120 + 1", x.premium(3), 101);
        Check.same("limit 1: 22 / 22 + 1", x.premium(4), 2);
        Check.same("computed", x.picnicPremium(24, 500, 50), 101);
    }

    private void premiumsAreRoundedDown() {
        doc.test("Policies", "Quotients are rounded down.");
        WeatherInsurance x = new WeatherInsurance();
        Check.same("kite: 39 / 40", x.kitePremium(1, 39), 1);
        Check.same("kite: 79 / 40", x.kitePremium(1, 79), 2);
        Check.same("kite: 80 / 40", x.kitePremium(2, 40), 3);
        Check.same("picnic: 19 / 20", x.picnicPremium(19, 1, 0), 1);
        Check.same("picnic: 39 / 20", x.picnicPremium(3, 13, 0), 2);
        Check.same("picnic: 119 / 120", x.picnicPremium(1, 119, 50), 1);
        Check.same("picnic: 120 / 120", x.picnicPremium(1, 120, 50), 2);
        x.buyKite(0, 0, 1, 79, 0, 0);
        Check.same("bought", x.premium(0), 2);
    }

    private void purchaseCostsOnePremium() {
        doc.test("Policies", "The holder pays one premium to the reserve at the purchase.");
        WeatherInsurance x = Check.with("holder a 4;holder b 9;assessor 0;reserve 0;");
        Check.badState("a premium of 5 of 4", () -> x.buyKite(0, 0, 4, 40, 0, 0));
        x.buyKite(0, 0, 1, 40, 0, 0);
        Check.same("2 of 4 are left", x.balance(0), 2);
        Check.same("2 are in the reserve", x.reserve(), 2);
        x.buyPicnic(0, 0, 1, 20, 0);
        Check.same("nothing is left", x.balance(0), 0);
        Check.same("4 are in the reserve", x.reserve(), 4);
        Check.same("the other holder pays nothing", x.balance(1), 9);
        Check.badState("a premium of 1 of 0", () -> x.buyPicnic(0, 0, 1, 1, 0));
    }

    private void expiry() {
        doc.test("Policies",
            "A policy expires when the clock reaches its first insured hour plus its number of insured hours.");
        WeatherInsurance x = new WeatherInsurance();
        x.buyKite(0, 2, 3, 1, 0, 0);
        x.buyPicnic(0, 0, 1, 1, 0);
        Check.same("active before its hours", x.isActive(0), true);
        x.passHour(0, 0);
        Check.same("one hour: over", x.isActive(1), false);
        Check.pass(x, 3, 0, 0);
        Check.same("active in its last hour", x.isActive(0), true);
        Check.same("no claim in its last hour", x.claimObstacle(0), WeatherInsurance.NOT_OVER);
        x.passHour(0, 0);
        Check.same("over at 2 + 3", x.isActive(0), false);
        Check.same("a claim at 2 + 3", x.claimObstacle(0), WeatherInsurance.MAY_CLAIM);
        Check.until(x, 1000);
        x.buyKite(0, 1000, 1, 1, 0, 0);
        Check.same("the clock never reaches 1001", x.isActive(2), true);
        Check.same("so no claim", x.claimObstacle(2), WeatherInsurance.NOT_OVER);
    }

    // ---- hours ----

    private void hours() {
        orderWithinAnHour();
        premiumsAreDue();
        balanceSuffices();
        policyLapses();
        weatherIsRecorded();
        assessorsWork();
        hoursOfWork();
        decisionInTheLastHour();
        paidInTheOrderOfDecisions();
        paymentMovesMoney();
        reserveDoesNotSuffice();
    }

    private void orderWithinAnHour() {
        doc.test("Hours", "When an hour passes, the following happens in this order:");
        // At clock 24 a premium of 40 is due, and a claim of 80 is decided: 43 are in the reserve, and then 83.
        WeatherInsurance x = Check.with("holder a 83;assessor 0;reserve 0;",
            "kite a 22 1 80 5 9;kite a 30 24 65 0 0;hours 23 0 0;claim 0;hours 1 0 0;");
        Check.same("before the premium", x.reserve(), 43);
        Check.same("decided", x.passHour(0, 0), 1);
        Check.same("paid with the premium of the same hour", x.isPaid(0), true);
        Check.same("reserve", x.reserve(), 3);
        // The payment of that hour comes too late for its premium.
        WeatherInsurance y = Check.with("holder a 12;assessor 0;reserve 500;",
            "kite a 22 1 80 5 9;kite a 30 1 320 0 0;hours 23 0 0;claim 0;hours 1 0 0;");
        Check.same("decided too", y.passHour(0, 0), 1);
        Check.same("paid in that hour", y.balance(0), 80);
        Check.same("lapsed before", y.hasLapsed(1), true);
        // So does that of a claim that was granted long ago, when the reserve has come to suffice.
        WeatherInsurance z = Check.with("holder a 12;holder b 999;assessor 0;reserve 0;",
            "kite a 0 1 80 5 9;kite a 30 1 320 0 0;hours 1 0 0;claim 0;hours 23 0 0;kite b 90 24 120 0 0;");
        Check.same("enough for the claim of 80", z.nextPayment() * 100 + z.reserve(), 85);
        z.passHour(0, 0);
        Check.same("paid", z.balance(0), 80);
        Check.same("too late for the premium", z.hasLapsed(1), true);
    }

    private void premiumsAreDue() {
        doc.test("Hours", "If the clock is a positive multiple of 24, a premium is due for each active policy, "
            + "in the order of the policies.");
        WeatherInsurance x = Check.with("holder a 99;holder b 14;assessor 0;");
        Check.whole(x, "kite a 60 1 40 0 0;picnic a 24 1 60 0;kite a 23 1 120 0 0;");
        Check.whole(x, "kite b 60 1 80 0 0;kite b 60 1 120 0 0;kite b 60 1 40 0 0;");
        Check.same("bought: 2, 4 and 4", x.balance(0), 89);
        Check.same("bought: 3, 4 and 2", x.balance(1), 5);
        x.passHour(0, 0);
        Check.same("0 is not positive", x.balance(0), 89);
        Check.until(x, 24);
        Check.same("not before hour 24", x.balance(0), 89);
        x.passHour(0, 0);
        Check.same("the third was over at 24", x.balance(0), 83);
        Check.same("the first of 3 is paid of 5", x.hasLapsed(3), false);
        Check.same("the second of 4 is not", x.hasLapsed(4), true);
        Check.same("the third of 2 is", x.hasLapsed(5), false);
        Check.same("nothing is left", x.balance(1), 0);
        Check.until(x, 48);
        Check.same("nothing between", x.balance(0), 83);
        x.passHour(0, 0);
        Check.same("the second is over by 48", x.balance(0), 81);
        Check.until(x, 100);
        Check.same("the first is over by 72", x.balance(0), 81);
    }

    private void balanceSuffices() {
        doc.test("Hours", "The holder pays it to the reserve if the balance suffices.");
        WeatherInsurance x = Check.with("holder a 4;assessor 0;reserve 7;", "kite a 40 1 40 0 0;hours 24 0 0;");
        Check.same("just the premium is left", x.balance(0), 2);
        x.passHour(0, 0);
        Check.same("paid", x.balance(0), 0);
        Check.same("to the reserve", x.reserve(), 11);
        Check.same("premiums", x.totalPremiums(), 4);
        Check.same("active", x.isActive(0), true);
    }

    private void policyLapses() {
        doc.test("Hours", "Otherwise the policy lapses and nothing is paid.");
        WeatherInsurance x = Check.with("holder a 3;assessor 0;reserve 7;", "kite a 40 1 40 0 0;hours 24 0 0;");
        Check.same("one less than the premium is left", x.balance(0), 1);
        Check.same("not lapsed before the hour", x.hasLapsed(0), false);
        x.passHour(0, 0);
        Check.same("lapsed", x.hasLapsed(0), true);
        Check.same("nothing paid", x.balance(0), 1);
        Check.same("nothing in the reserve", x.reserve(), 9);
        Check.same("premiums", x.totalPremiums(), 2);
        x.deposit(0, 9);
        Check.until(x, 60);
        Check.same("it stays lapsed, and no premium is due", x.balance(0), 10);
    }

    private void weatherIsRecorded() {
        doc.test("Hours", "The weather of the hour is recorded, and the clock advances by 1.");
        WeatherInsurance x = new WeatherInsurance();
        for (int hour = 0; hour < 30; hour++) {
            x.passHour(hour, 50 - hour);
            Check.same("clock", x.clock(), hour + 1);
        }
        for (int hour = 0; hour < 30; hour++) {
            Check.same("wind of " + hour, x.wind(hour), hour);
            Check.same("rain of " + hour, x.rain(hour), 50 - hour);
        }
    }

    private void assessorsWork() {
        doc.test("Hours", "Each assessor, in the order of their numbers, works for one hour on the claim that was "
            + "assigned to them first and is undecided.");
        // Claim 1 is assessor 1's and takes five hours; claim 2 is assessor 0's, begins three hours later, takes two.
        WeatherInsurance x = Check.with("holder a 999;assessor 0;assessor 3;reserve 0;",
            "kite a 0 1 40 0 9;picnic a 0 1 400 0;kite a 1 1 400 5 9;hours 2 0 50;claim 0;claim 1;hours 3 0 0;claim 2;");
        Check.same("claim 2 is assessor 0's", x.assessorOf(2), 0);
        Check.same("nothing is decided in the fourth hour", x.passHour(0, 0), 0);
        Check.same("two are decided in the fifth hour", x.passHour(0, 0), 2);
        Check.same("assessor 0's decision comes first", x.nextPayment(), 2);
        // An assessor has one claim at a time.
        WeatherInsurance y = Check.with("holder a 999;assessor 1;",
            "kite a 0 1 40 0 9;picnic a 0 1 40 50;hours 1 0 0;claim 1;claim 0;hours 1 0 0;");
        Check.same("an hour for the first", y.hoursUntilDecision(0), 2);
        Check.same("none for the second", y.hoursUntilDecision(1), 5);
        Check.pass(y, 2, 0, 0);
        Check.same("the first is decided", y.isUndecided(0), false);
        Check.same("the second begins in the hour after", y.hoursUntilDecision(1), 3);
    }

    private void hoursOfWork() {
        doc.test("Hours", "The assessment of a claim takes 2 hours of work plus one hour per unit of strictness.");
        for (int strictness = 0; strictness <= 9; strictness++) {
            WeatherInsurance x = claimed(strictness, 40);
            Check.pass(x, 1 + strictness, 0, 0);
            Check.same("strictness " + strictness + ": an hour before", x.isUndecided(0), true);
            x.passHour(0, 0);
            Check.same("strictness " + strictness + ": in time", x.isUndecided(0), false);
        }
    }

    private void decisionInTheLastHour() {
        doc.test("Hours", "In the last hour the claim is decided.");
        WeatherInsurance x = claimed(0, 40);
        Check.same("the first hour decides none", x.passHour(0, 0), 0);
        Check.same("nothing is granted", x.grantedAmount(0), 0);
        Check.same("the last hour decides one", x.passHour(0, 0), 1);
        Check.same("it is granted", x.grantedAmount(0), 40);
        Check.same("the next hour decides none", x.passHour(0, 0), 0);
    }

    /** One kite policy of one damaged hour, whose claim is filed for an assessor of this strictness. */
    private static WeatherInsurance claimed(int strictness, int cover) {
        return Check.with("holder a 999;assessor " + strictness + ";", "kite a 0 1 " + cover + " 5 9;hours 1 0 0;claim 0;");
    }

    private void paidInTheOrderOfDecisions() {
        doc.test("Hours", "Granted claims are paid in the order in which they were decided.");
        WeatherInsurance x = Check.with("holder a 999;assessor 9;assessor 0;reserve 0;",
            "kite a 0 1 40 5 9;picnic a 0 1 400 0;hours 1 0 50;claim 0;claim 1;hours 11 0 0;");
        Check.same("both are granted", x.openPayments(), 422);
        Check.same("the later claim was decided first", x.nextPayment(), 1);
        Check.same("reserve", x.reserve(), 2 + 21);
        x.buyKite(0, 90, 24, 500, 0, 0);
        x.buyKite(0, 90, 19, 160, 0, 0);
        Check.same("enough for one", x.reserve(), 401);
        x.passHour(0, 0);
        Check.same("the first decided is paid", x.isPaid(1), true);
        Check.same("the other waits", x.isPaid(0), false);
        Check.same("it is the next", x.nextPayment(), 0);
    }

    private void paymentMovesMoney() {
        doc.test("Hours", "A payment moves the granted amount from the reserve to the balance of the holder.");
        WeatherInsurance x = Check.with("holder a 99;holder b 50;assessor 2;reserve 500;",
            "kite b 0 1 40 5 9;hours 1 0 0;claim 0;hours 3 0 0;");
        Check.same("balance before", x.balance(1), 48);
        x.passHour(0, 0);
        Check.same("granted: 40 - 4", x.grantedAmount(0), 36);
        Check.same("the holder has it", x.balance(1), 84);
        Check.same("the reserve has it no more", x.reserve(), 502 - 36);
        Check.same("the other holder has nothing of it", x.balance(0), 99);
        Check.same("sum", x.totalPaid(), 36);
        x.passHour(0, 0);
        Check.same("it is paid once", x.balance(1), 84);
    }

    private void reserveDoesNotSuffice() {
        doc.test("Hours", "If the reserve does not suffice for the first unpaid claim, no claim is paid in this hour.");
        // Premiums of 3 and 2 make 100 of 95, and 99 of 94; the claims are for 100 and then for 40.
        WeatherInsurance enough = twoGranted(95);
        Check.same("just enough for the first", enough.isPaid(0), true);
        Check.same("the reserve is empty", enough.reserve(), 0);
        Check.same("the second waits", enough.isPaid(1), false);
        WeatherInsurance x = twoGranted(94);
        Check.same("one too few", x.reserve(), 99);
        Check.same("the first is not paid", x.isPaid(0), false);
        Check.same("the second is not either", x.isPaid(1), false);
        Check.same("both are open", x.openPayments(), 140);
        Check.same("the first is still the next", x.nextPayment(), 0);
        x.buyKite(0, 50, 1, 1, 0, 0);
        x.passHour(0, 0);
        Check.same("one more is enough for the first", x.totalPaid(), 100);
        x.buyKite(0, 50, 24, 65, 0, 0);
        Check.same("40 for the second", x.reserve(), 40);
        x.passHour(0, 0);
        Check.same("all is paid", x.nextPayment(), WeatherInsurance.NONE);
        Check.same("both in one hour, with 135 + 5", twoGranted(135).totalPaid(), 140);
        Check.same("one of them, with 134 + 5", twoGranted(134).totalPaid(), 100);
    }

    private static WeatherInsurance twoGranted(int reserve) {
        return Check.with("holder a 999;assessor 0;assessor 0;reserve " + reserve + ";",
            "kite a 0 1 100 5 9;kite a 1 1 40 5 9;hours 2 0 0;claim 0;claim 1;hours 2 0 0;");
    }

    // ---- damage ----

    private void damage() {
        damagedHours();
        damageOfKites();
        excess();
        damageOfPicnics();
        damagesAreRoundedDown();
    }

    private void damagedHours() {
        doc.test("Damage", "An insured hour of a kite policy is damaged if its recorded wind is less than the least wind "
            + "or greater than the greatest wind.");
        WeatherInsurance x = new WeatherInsurance();
        x.buyKite(0, 1, 6, 6, 20, 60);
        x.buyKite(0, 0, 8, 8, 0, 150);
        x.buyKite(0, 0, 8, 8, 60, 60);
        int[] winds = {0, 19, 20, 60, 61, 0, 150, 150};
        int[] damaged = {0, 1, 1, 1, 2, 3, 4, 4};
        int[] not60 = {1, 2, 3, 3, 4, 5, 6, 7};
        for (int hour = 0; hour < 8; hour++) {
            x.passHour(winds[hour], 50);
            Check.same("from 20 to 60, hour " + hour, x.damage(0), damaged[hour]);
            Check.same("from 0 to 150, hour " + hour, x.damage(1), 0);
            Check.same("from 60 to 60, hour " + hour, x.damage(2), not60[hour]);
        }
    }

    private void damageOfKites() {
        doc.test("Damage",
            "The damage of a kite policy is cover * (number of damaged hours) / (number of insured hours).");
        WeatherInsurance x = Check.with("holder a 9999;assessor 0;", "kite a 0 24 500 5 9;kite a 0 1 500 5 9;kite a 0 24 1 5 9;");
        x.passHour(0, 0);
        Check.same("1 of 24", x.damage(0), 20);
        Check.same("1 of 1", x.damage(1), 500);
        Check.same("1 of 24, cover 1", x.damage(2), 0);
        Check.pass(x, 22, 0, 0);
        Check.same("23 of 24", x.damage(0), 479);
        Check.same("23 of 24, cover 1", x.damage(2), 0);
        x.passHour(10, 0);
        Check.same("24 of 24", x.damage(0), 500);
        Check.same("24 of 24, cover 1", x.damage(2), 1);
    }

    private void excess() {
        doc.test("Damage", "The excess of a picnic policy is the sum of the recorded rain of its insured hours minus its "
            + "rain limit, but not less than 0.");
        WeatherInsurance x = new WeatherInsurance();
        x.buyPicnic(0, 1, 3, 10, 5);
        x.passHour(0, 50);
        Check.same("an hour before", x.damage(0), 0);
        x.passHour(0, 0);
        Check.same("0 - 5", x.damage(0), 0);
        x.passHour(0, 5);
        Check.same("5 - 5", x.damage(0), 0);
        x.passHour(0, 1);
        Check.same("6 - 5", x.damage(0), 1);
        x.passHour(0, 50);
        Check.same("an hour after", x.damage(0), 1);
        x.buyPicnic(0, 5, 1, 500, 50);
        x.passHour(0, 49);
        Check.same("49 - 50", x.damage(1), 0);
    }

    private void damageOfPicnics() {
        doc.test("Damage", "The damage of a picnic policy is cover * excess / 10, but not more than the cover.");
        WeatherInsurance x = Check.with("holder a 9999;assessor 0;", "picnic a 0 24 500 0;picnic a 0 24 500 1;picnic a 0 24 1 0;");
        x.passHour(0, 9);
        Check.same("excess 9", x.damage(0), 450);
        Check.same("excess 8", x.damage(1), 400);
        x.passHour(0, 1);
        Check.same("excess 10", x.damage(0), 500);
        Check.same("excess 9", x.damage(1), 450);
        x.passHour(0, 1);
        Check.same("excess 11", x.damage(0), 500);
        Check.same("excess 10", x.damage(1), 500);
        Check.pass(x, 21, 0, 50);
        Check.same("the greatest excess", x.damage(0), 500);
        Check.same("the greatest excess of cover 1", x.damage(2), 1);
    }

    private void damagesAreRoundedDown() {
        doc.test("Damage", "Quotients are rounded down.");
        WeatherInsurance x = new WeatherInsurance();
        Check.whole(x, "kite ann 0 2 7 5 9;kite ann 0 3 5 5 9;picnic ann 0 1 19 0;picnic ann 0 1 9 0;hours 1 0 1;");
        Check.same("7 * 1 / 2", x.damage(0), 3);
        Check.same("5 * 1 / 3", x.damage(1), 1);
        Check.same("19 * 1 / 10", x.damage(2), 1);
        Check.same("9 * 1 / 10", x.damage(3), 0);
        x.passHour(0, 0);
        Check.same("5 * 2 / 3", x.damage(1), 3);
    }

    // ---- claims ----

    private void claims() {
        whenClaimsCanBeFiled();
        noSecondClaimOfTheSame();
        claimsAreNumbered();
        claimsAreAssigned();
        grantedAmounts();
        nothingGrantedIsDenied();
    }

    private void whenClaimsCanBeFiled() {
        doc.test("Claims", "A claim can be filed for a policy that has expired without lapsing, until the clock is 72 hours "
            + "past its expiry, and at most once.");
        WeatherInsurance x = Check.with("holder a 9;holder b 16;assessor 0;", "kite a 3 2 1 0 0;picnic b 30 5 60 0;hours 4 0 0;");
        Check.badState("an hour before the expiry", () -> x.fileClaim(0));
        x.passHour(0, 0);
        Check.same("at the expiry", x.fileClaim(0), 0);
        Check.badState("a second time", () -> x.fileClaim(0));
        x.undo();
        Check.until(x, 40);
        Check.same("the other one has lapsed", x.hasLapsed(1), true);
        Check.badState("it can't be claimed after its hours", () -> x.fileClaim(1));
        Check.until(x, 77);
        Check.same("72 hours past the expiry", x.fileClaim(0), 0);
        x.undo();
        x.passHour(0, 0);
        Check.badState("73 hours past the expiry", () -> x.fileClaim(0));
        Check.same("no claim", x.claimCount(), 0);
    }

    private void noSecondClaimOfTheSame() {
        doc.test("Claims", "No second claim can be filed with the same holder, the same kind of policy and the same first "
            + "insured hour.");
        WeatherInsurance x = new WeatherInsurance();
        Check.whole(x, "kite ann 0 1 9 0 0;kite ann 0 2 500 5 9;picnic ann 0 1 9 0;kite bob 0 1 9 0 0;kite ann 1 1 9 0 0;");
        Check.whole(x, "picnic ann 0 2 8 7;hours 2 0 0;");
        Check.same("a claim", x.fileClaim(0), 0);
        Check.badState("the same three", () -> x.fileClaim(1));
        Check.same("another kind", x.fileClaim(2), 1);
        Check.badState("the same three of picnics", () -> x.fileClaim(5));
        Check.same("another holder", x.fileClaim(3), 2);
        Check.same("another first hour", x.fileClaim(4), 3);
        Check.pass(x, 20, 0, 0);
        Check.badState("it was decided long ago", () -> x.fileClaim(1));
    }

    private void claimsAreNumbered() {
        doc.test("Claims", "Claims are numbered from 0 in the order in which they were filed.");
        WeatherInsurance x = new WeatherInsurance();
        for (int policy = 0; policy < 20; policy++) {
            x.buyKite(2, policy, 1, 1, 0, 0);
        }
        Check.pass(x, 20, 0, 0);
        for (int claim = 0; claim < 20; claim++) {
            Check.same("claim", x.fileClaim(19 - claim), claim);
        }
        Check.same("a claim for each policy", x.claimCount(), 20);
        Check.same("the first", x.policyOf(0), 19);
        Check.same("the last", x.policyOf(19), 0);
        Check.outOfBounds("there is no claim 20", () -> x.policyOf(20));
        Check.same("all are in work", x.workload(0) + x.workload(1), 20);
        Check.same("the last of assessor 1: ten times 6 hours", x.hoursUntilDecision(19), 60);
    }

    private void claimsAreAssigned() {
        doc.test("Claims", "A claim is assigned to the assessor with the smallest number of undecided claims; in a tie to "
            + "the one with the smallest number.");
        WeatherInsurance x = Check.with("holder a 99;assessor 5;assessor 0;assessor 9;",
            "kite a 0 1 1 0 0;kite a 1 1 1 0 0;kite a 2 1 1 0 0;kite a 3 1 1 0 0;kite a 4 1 1 0 0;kite a 5 1 1 0 0;hours 6 0 0;");
        int[] assessors = {0, 1, 2, 0, 1};
        for (int claim = 0; claim < 5; claim++) {
            x.fileClaim(claim);
            Check.same("claim " + claim, x.assessorOf(claim), assessors[claim]);
        }
        Check.pass(x, 4, 0, 0);
        Check.same("assessor 1 has decided both", x.workload(1), 0);
        x.fileClaim(5);
        Check.same("only undecided claims count", x.assessorOf(5), 1);
        Check.same("a decided claim stays where it was", x.assessorOf(1), 1);
    }

    private void grantedAmounts() {
        doc.test("Claims", "When a claim is decided, the granted amount is the damage minus 5 percent of the damage per unit "
            + "of strictness of the assessor, where the percentage of all units together is rounded down.");
        Check.same("strictness 0", granted(0, 500), 500);
        Check.same("strictness 9", granted(9, 500), 275);
        Check.same("19 - 0.95", granted(1, 19), 19);
        Check.same("20 - 1", granted(1, 20), 19);
        Check.same("33 - 4.95, not 33 - 3 * 1.65", granted(3, 33), 29);
        Check.same("2 - 0.9", granted(9, 2), 2);
        Check.same("3 - 1.35", granted(9, 3), 2);
        Check.same("10 - 4.5", granted(9, 10), 6);
    }

    private static int granted(int strictness, int damage) {
        WeatherInsurance x = claimed(strictness, damage);
        Check.pass(x, 2 + strictness, 0, 0);
        return x.grantedAmount(0);
    }

    private void nothingGrantedIsDenied() {
        doc.test("Claims", "A claim with a granted amount of 0 is denied.");
        WeatherInsurance x = Check.with("holder a 99;assessor 9;", "kite a 0 1 500 0 9;hours 1 0 0;claim 0;hours 11 0 0;");
        Check.same("no damage", x.isDenied(0), true);
        Check.same("nothing granted", x.grantedAmount(0), 0);
        Check.same("not paid", x.isPaid(0), false);
        Check.same("no payment", x.nextPayment(), WeatherInsurance.NONE);
        WeatherInsurance least = claimed(9, 1);
        Check.pass(least, 11, 0, 0);
        Check.same("1 - 0.45: not denied", least.isDenied(0), false);
        Check.same("but granted", least.grantedAmount(0), 1);
        Check.same("and paid", least.isPaid(0), true);
    }

    // ---- assessors ----

    private void assessors() {
        oneToThreeAssessors();
        strictnesses();
    }

    private void oneToThreeAssessors() {
        doc.test("Assessors", "There are 1 to 3 assessors, numbered from 0 in the order of the setup.");
        Check.badSetup("holder a 1;", WeatherInsurance.TOO_FEW, 11);
        Check.same("one", Check.with("assessor 7;holder a 1;").assessorCount(), 1);
        WeatherInsurance x = Check.with("assessor 7;holder a 1;assessor 3;assessor 5;");
        Check.same("three", x.assessorCount(), 3);
        Check.same("the first", x.strictness(0), 7);
        Check.same("the second", x.strictness(1), 3);
        Check.same("the third", x.strictness(2), 5);
        Check.outOfBounds("there is no fourth one", () -> x.strictness(3));
        Check.badSetup("assessor 7;assessor 3;assessor 5;holder a 1;assessor 1;", WeatherInsurance.TOO_MANY, 44);
    }

    private void strictnesses() {
        doc.test("Assessors", "An assessor has a strictness of 0 to 9.");
        WeatherInsurance x = Check.with("holder a 1;assessor 0;assessor 9;");
        Check.same("least", x.strictness(0), 0);
        Check.same("greatest", x.strictness(1), 9);
        Check.badSetup("holder a 1;assessor 10;", WeatherInsurance.OUT_OF_RANGE, 20);
        Check.badSetup("holder a 1;assessor 9999;", WeatherInsurance.OUT_OF_RANGE, 20);
        Check.badSetup("holder a 1;assessor -1;", WeatherInsurance.SYNTAX, 20);
    }
}
