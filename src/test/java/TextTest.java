/** Promises 1 to 7: the first setup, the input buffer, setups, scripts, and the errors of texts. */
public final class TextTest {
    public static void main(String[] args) {
        p01NewObject();
        p02AppendInput();
        p03TruncateInput();
        p04LoadSetup();
        p04ValidSetupReplacesEverything();
        p04InvalidSetupLeavesEverything();
        p04SetupErrors();
        p05RunScript();
        p05ExecutionStops();
        p05ScriptErrors();
        p05ScriptIsOneChange();
        p06p07ErrorsOfTheLatestText();
        Check.end();
    }

    private static void p01NewObject() {
        WeatherInsurance x = new WeatherInsurance();
        Check.same("holders", x.holderCount(), 3);
        Check.same("name 0", Check.name(x, 0), "ann");
        Check.same("name 1", Check.name(x, 1), "bob");
        Check.same("name 2", Check.name(x, 2), "cid");
        Check.same("balance 0", x.balance(0), 200);
        Check.same("balance 1", x.balance(1), 60);
        Check.same("balance 2", x.balance(2), 500);
        Check.same("assessors", x.assessorCount(), 2);
        Check.same("strictness 0", x.strictness(0), 0);
        Check.same("strictness 1", x.strictness(1), 4);
        Check.same("reserve", x.reserve(), 300);
        Check.same("clock", x.clock(), 0);
        Check.same("policies", x.policyCount(), 0);
        Check.same("claims", x.claimCount(), 0);
        Check.same("errorCode", x.errorCode(), WeatherInsurance.NO_ERROR);
        Check.same("errorOffset", x.errorOffset(), WeatherInsurance.NONE);
        Check.same("output", x.outputByte(0), WeatherInsurance.NONE);
        Check.noElement("undo of a new object", x::undo);
        Check.noElement("restore of a new object", x::restoreState);
        Check.same("the buffer is empty", x.truncateInput(1), false);
        Check.same("the buffer has length 0", x.truncateInput(0), true);
    }

    private static void p02AppendInput() {
        WeatherInsurance x = new WeatherInsurance();
        for (int length = 20; length <= 600; length += 20) {
            Check.same("append up to " + length, x.appendInput(0, 0, 0, 0, 0), length);
        }
        Check.same("append beyond 600", x.appendInput(0, 0, 0, 0, 0), WeatherInsurance.NONE);
        Check.same("the length is still 600", x.truncateInput(601), false);
        Check.same("truncate to 581", x.truncateInput(581), true);
        Check.same("append 20 to 581", x.appendInput(0, 0, 0, 0, 0), WeatherInsurance.NONE);
        Check.same("truncate to 580", x.truncateInput(580), true);
        Check.same("append 20 to 580", x.appendInput(0, 0, 0, 0, 0), 600);

        // "holder xy 77;assessor 1;" in big-endian words, parameter by parameter
        WeatherInsurance y = new WeatherInsurance();
        Check.same("first", y.appendInput(0x686f6c64, 0x65722078, 0x79203737, 0x3b617373, 0x6573736f), 20);
        Check.same("second", y.appendInput(0x7220313b, 0x20202020, 0x20202020, 0x20202020, 0x20202020), 40);
        Check.same("setup of words", y.loadSetup(), 1);
        Check.same("its name", Check.name(y, 0), "xy");
        Check.same("its balance", y.balance(0), 77);

        // bytes of 128 and more start no token
        WeatherInsurance z = new WeatherInsurance();
        z.appendInput(0xe1202020, 0x20202020, 0x20202020, 0x20202020, 0x20202020);
        Check.same("byte 225", z.runScript(), WeatherInsurance.NONE);
        Check.same("byte 225: code", z.errorCode(), WeatherInsurance.SYNTAX);
        Check.same("byte 225: offset", z.errorOffset(), 0);
    }

    private static void p03TruncateInput() {
        WeatherInsurance x = new WeatherInsurance();
        Check.same("empty to 0", x.truncateInput(0), true);
        Check.same("negative", x.truncateInput(-1), false);
        Check.same("least", x.truncateInput(Integer.MIN_VALUE), false);
        x.appendInput(0, 0, 0, 0, 0);
        Check.same("greater", x.truncateInput(21), false);
        Check.same("greatest", x.truncateInput(Integer.MAX_VALUE), false);
        Check.same("the same", x.truncateInput(20), true);
        Check.same("smaller", x.truncateInput(7), true);
        Check.same("no change by refusals", x.truncateInput(-5), false);
        Check.same("append to 7", x.appendInput(0, 0, 0, 0, 0), 27);
        Check.same("to 0", x.truncateInput(0), true);
        Check.same("append to 0", x.appendInput(0, 0, 0, 0, 0), 20);
    }

    private static void p04LoadSetup() {
        WeatherInsurance x = new WeatherInsurance();
        Check.same("setup", Check.setup(x, " reserve 5;assessor 9;\nholder holder0;holder\nb 9999 ;assessor0;reserve 7;"), 2);
        Check.same("a keyword as a name", Check.name(x, 0), "holder");
        Check.same("balance 0", x.balance(0), 0);
        Check.same("balance 1", x.balance(1), 9999);
        Check.same("the last reserve counts", x.reserve(), 7);
        Check.same("strictness 0", x.strictness(0), 9);
        Check.same("strictness 1", x.strictness(1), 0);
        Check.same("the buffer is emptied", x.truncateInput(1), false);
        Check.same("append after it", x.appendInput(0, 0, 0, 0, 0), 20);
        x.truncateInput(0);
        Check.same("without a reserve", Check.setup(x, "holder a 0001;assessor 0000;"), 1);
        Check.same("the usual reserve", x.reserve(), 1000);
        Check.same("leading zeros", x.balance(0), 1);
        Check.same("eight and three", Check.setup(x, "holder a 1;holder b 2;holder c 3;holder d 4;holder e 5;"
            + "holder f 6;holder g 7;holder h 8;assessor 1;assessor 2;assessor 3;"), 8);
        Check.same("last balance", x.balance(7), 8);
        Check.same("last strictness", x.strictness(2), 3);
        StringBuilder longText = new StringBuilder("holder a 5;assessor 1;");
        while (longText.length() < 590) {
            longText.append("reserve 1;");
        }
        while (longText.length() < 600) {
            longText.append(' ');
        }
        Check.same("a text of 600 bytes", Check.setup(x, longText.toString()), 1);
        Check.same("its reserve", x.reserve(), 1);
    }

    private static void p04ValidSetupReplacesEverything() {
        WeatherInsurance x = new WeatherInsurance();
        x.buyKite(0, 0, 1, 100, 50, 60);
        x.passHour(5, 5);
        x.fileClaim(0);
        x.deposit(1, 9);
        Check.pass(x, 3, 5, 5);
        x.buyPicnic(1, 60, 1, 500, 0);
        x.buyPicnic(1, 60, 1, 500, 0);
        Check.pass(x, 21, 5, 5);
        Check.same("both lapsed", x.lapsedCount(), 2);
        x.saveState();
        x.writeClaim(0);
        Check.same("setup", Check.setup(x, "holder z 4;assessor 2;"), 1);
        Check.same("clock", x.clock(), 0);
        Check.same("policies", x.policyCount(), 0);
        Check.same("claims", x.claimCount(), 0);
        Check.same("premiums", x.totalPremiums(), 0);
        Check.same("paid", x.totalPaid(), 0);
        Check.same("deposits", x.totalDeposits(), 0);
        Check.same("lapsed", x.lapsedCount(), 0);
        Check.same("open", x.openPayments(), 0);
        Check.same("next payment", x.nextPayment(), WeatherInsurance.NONE);
        Check.same("output stays", Check.output(x), "ann/k=100");
        Check.noElement("no change", x::undo);
        Check.noElement("no saved state", x::restoreState);
        Check.outOfBounds("no past hour", () -> x.wind(0));
        Check.same("consistent", x.isConsistent(), true);
        Check.script(x, "picnic z 0 1 40 0;hours 1 0 50;");
        Check.same("new policies have not lapsed", x.hasLapsed(0), false);
        Check.same("a new claim", x.fileClaim(0), 0);
        Check.same("new claims are undecided", x.isUndecided(0), true);
        Check.same("with nothing granted", x.grantedAmount(0), 0);
        Check.same("with no work done", x.hoursUntilDecision(0), 4);
    }

    private static void p04InvalidSetupLeavesEverything() {
        WeatherInsurance x = new WeatherInsurance();
        x.buyPicnic(1, 0, 1, 100, 0);
        x.passHour(7, 8);
        x.saveState();
        Check.same("invalid", Check.setup(x, "holder z 4;holder y 5;assessor 2;reserve 1;x"), WeatherInsurance.NONE);
        Check.same("the buffer is emptied", x.truncateInput(1), false);
        Check.same("holders", x.holderCount(), 3);
        Check.same("name", Check.name(x, 0), "ann");
        Check.same("strictness", x.strictness(1), 4);
        Check.same("assessors", x.assessorCount(), 2);
        Check.same("reserve", x.reserve(), 306);
        Check.same("clock", x.clock(), 1);
        Check.same("policies", x.policyCount(), 1);
        Check.same("restore", x.restoreState(), 1);
        WeatherInsurance y = new WeatherInsurance();
        y.passHour(1, 1);
        Check.setup(y, "");
        Check.same("undo after an invalid setup", y.undo(), 0);
    }

    private static void p04SetupErrors() {
        int syntax = WeatherInsurance.SYNTAX;
        int range = WeatherInsurance.OUT_OF_RANGE;
        Check.badSetup("", WeatherInsurance.TOO_FEW, 0);
        Check.badSetup(" \n ", WeatherInsurance.TOO_FEW, 3);
        Check.badSetup("holder a 5; ", WeatherInsurance.TOO_FEW, 12);
        Check.badSetup("assessor 5;", WeatherInsurance.TOO_FEW, 11);
        Check.badSetup("reserve 5;", WeatherInsurance.TOO_FEW, 10);
        Check.badSetup("holder", syntax, 6);
        Check.badSetup("holder  ", syntax, 8);
        Check.badSetup("holder a", syntax, 8);
        Check.badSetup("holder a 5", syntax, 10);
        Check.badSetup("holder a 5 ", syntax, 11);
        Check.badSetup("assessor", syntax, 8);
        Check.badSetup(";", syntax, 0);
        Check.badSetup("5", syntax, 0);
        Check.badSetup("xolder a 5;", syntax, 0);
        Check.badSetup("holdex a 5;", syntax, 0);
        Check.badSetup(" holders a 5;", syntax, 1);
        Check.badSetup("holder abcdefg 5;", syntax, 7);
        Check.badSetup("holder abcdefghi 5;", syntax, 7);
        Check.badSetup("assessors 5;", syntax, 0);
        Check.badSetup("holder Ann 5;", syntax, 7);
        Check.badSetup("holder anN 5;", syntax, 9);
        Check.badSetup("holder 7 5;", syntax, 7);
        Check.badSetup("holder ; 5;", syntax, 7);
        Check.badSetup("holder a b;", syntax, 9);
        Check.badSetup("holder a;", syntax, 8);
        Check.badSetup("holder a 12345;", syntax, 9);
        Check.badSetup("holder a 00005;", syntax, 9);
        Check.badSetup("holder a 5 6;", syntax, 11);
        Check.badSetup("holder a 5 assessor 1;", syntax, 11);
        Check.badSetup("holder a -5;", syntax, 9);
        Check.badSetup("holder\ta 5;", syntax, 6);
        Check.badSetup("assessor 10;", range, 9);
        Check.badSetup("assessor 9999;", range, 9);
        Check.badSetup("assessor x;", syntax, 9);
        Check.badSetup("reserve 10000;", syntax, 8);
        Check.badSetup("holder ann 5;holder ann 12345;", WeatherInsurance.BAD_NAME, 20);
        Check.badSetup("holder ann 5;holder bob 5;holder ann;", WeatherInsurance.BAD_NAME, 33);
        Check.badSetup("holder abcdefg 5;holder abcdefg 5;", syntax, 7);
        String eight = "holder a 1;holder b 2;holder c 3;holder d 4;holder e 5;holder f 6;holder g 7;holder h 8;";
        Check.badSetup(eight + " holder a", WeatherInsurance.TOO_MANY, 89);
        Check.badSetup(eight + "holde", syntax, 88);
        Check.badSetup(eight, WeatherInsurance.TOO_FEW, 88);
        Check.badSetup("assessor 1;assessor 2;assessor 3;assessor", WeatherInsurance.TOO_MANY, 33);
        Check.badSetup("hours 1 1 1;", syntax, 0);
    }

    private static void p05RunScript() {
        WeatherInsurance x = new WeatherInsurance();
        String text = "kite ann 1 4 100 20 60;picnic\nbob 0 3 60 5;hours 3 10 4;claim1;deposit cid 999;";
        Check.same("script", Check.script(x, text), 5);
        Check.same("the buffer is emptied", x.truncateInput(1), false);
        Check.same("kite", x.isKite(0), true);
        Check.same("kite: holder", x.holderOf(0), 0);
        Check.same("kite: first", x.firstHour(0), 1);
        Check.same("kite: hours", x.insuredHours(0), 4);
        Check.same("kite: cover", x.cover(0), 100);
        Check.same("kite: damage below 20", x.damage(0), 50);
        Check.same("picnic", x.isKite(1), false);
        Check.same("picnic: holder", x.holderOf(1), 1);
        Check.same("picnic: premium", x.premium(1), 7);
        Check.same("picnic: damage", x.damage(1), 42);
        Check.same("clock", x.clock(), 3);
        Check.same("wind", x.wind(2), 10);
        Check.same("rain", x.rain(0), 4);
        Check.same("claim", x.policyOf(0), 1);
        Check.same("deposit", x.balance(2), 1499);
        Check.same("deposits", x.totalDeposits(), 999);
        Check.same("an empty script", Check.script(x, " \n"), 0);
        Check.same("the edges of numbers", Check.script(x, "picnic cid 1000 24 1 50;picnic cid 1000 1 500 0;"
            + "kite cid 1000 24 500 150 150;kite cid 3 1 1 0 0;hours 48 150 50;hours 1 0 0;deposit ann 1;"), 7);
        Check.same("no error", x.errorCode(), WeatherInsurance.NO_ERROR);
        StringBuilder thirty = new StringBuilder();
        for (int i = 0; i < 30; i++) {
            thirty.append("deposit ann 1;");
        }
        Check.same("thirty statements", Check.script(x, thirty.toString()), 30);
    }

    private static void p05ExecutionStops() {
        WeatherInsurance x = new WeatherInsurance();
        Check.same("no policy 19", Check.script(x, "claim 19;deposit ann 1;"), 0);
        Check.same("no such policy", Check.script(x, "hours 1 1 1;claim 0;hours 5 5 5;"), 1);
        Check.same("the first stays executed", x.clock(), 1);
        Check.same("first hour has passed", Check.script(x, "kite ann 0 1 1 0 0;"), 0);
        Check.same("picnic in the past", Check.script(x, "picnic ann 0 1 1 0;"), 0);
        Check.same("first hour is now", Check.script(x, "kite ann 1 1 1 0 0;picnic ann 1 1 1 0;"), 2);
        Check.same("no money", Check.script(x, "picnic bob 5 24 500 0;"), 0);
        Check.same("no money for a kite", Check.script(x, "kite bob 5 24 500 0 1;"), 0);
        Check.same("the limit makes it cheap enough", Check.script(x, "picnic bob 1 24 280 50;"), 1);
        Check.same("56 of 60 are paid", x.balance(1), 3);
        Check.same("the premium is too high by one", Check.script(x, "picnic bob 1 1 60 0;"), 0);
        Check.same("the premium is just right", Check.script(x, "picnic bob 1 1 59 0;"), 1);
        Check.same("policies", x.policyCount(), 4);
        Check.same("not over", Check.script(x, "claim 0;"), 0);
        Check.same("up to the limit", Check.script(x, "hours 47 0 0;" + "hours 48 0 0;".repeat(19)), 20);
        Check.same("clock", x.clock(), 960);
        Check.same("too late", Check.script(x, "claim 0;"), 0);
        Check.same("all hours or none", Check.script(x, "deposit ann 1;hours 41 0 0;hours 40 0 0;"), 1);
        Check.same("clock as it was", x.clock(), 960);
        Check.same("forty hours", Check.script(x, "hours 40 0 0;hours 1 0 0;"), 1);
        Check.same("clock at its limit", x.clock(), 1000);
        Check.same("buying at the limit", Check.script(x, "kite ann 1000 1 1 0 0;kite ann 999 1 1 0 0;"), 1);
        WeatherInsurance y = new WeatherInsurance();
        Check.same("twenty policies", Check.script(y, "kite cid 0 1 1 0 0;".repeat(21)), 20);
        Check.same("policies", y.policyCount(), 20);
    }

    private static void p05ScriptErrors() {
        int syntax = WeatherInsurance.SYNTAX;
        int range = WeatherInsurance.OUT_OF_RANGE;
        int name = WeatherInsurance.BAD_NAME;
        Check.badScript("hours 0 0 0;", range, 6);
        Check.badScript("hours 49 0 0;", range, 6);
        Check.badScript("hours 1 151 0;", range, 8);
        Check.badScript("hours 1 0 51;", range, 10);
        Check.badScript("hours 1 0;", syntax, 9);
        Check.badScript("hours 1 0 0", syntax, 11);
        Check.badScript("hours 1 0 0 0;", syntax, 12);
        Check.badScript("hours 5 5 5;kite ann", syntax, 20);
        Check.badScript("kite dan 0 1 1 0 0;", name, 5);
        Check.badScript("kite an 0 1 1 0 0;", name, 5);
        Check.badScript("kite anna 0 1 1 0 0;", name, 5);
        Check.badScript("kite abcdefg 0 1 1 0 0;", syntax, 5);
        Check.badScript("kite 5 0 1 1 0 0;", syntax, 5);
        Check.badScript("kite ann 1001 1 1 0 0;", range, 9);
        Check.badScript("kite ann 0 0 1 0 0;", range, 11);
        Check.badScript("kite ann 0 25 1 0 0;", range, 11);
        Check.badScript("kite ann 0 1 0 0 0;", range, 13);
        Check.badScript("kite ann 0 1 501 0 0;", range, 13);
        Check.badScript("kite ann 0 1 1 151 0;", range, 15);
        Check.badScript("kite ann 0 1 1 0 151;", range, 17);
        Check.badScript("kite ann 0 1 1 9 8;", range, 17);
        Check.badScript("kite ann 0 1 1 9 08888;", syntax, 17);
        Check.badScript("picnic dan 0 1 1 0;", name, 7);
        Check.badScript("picnic ann 1001 1 1 0;", range, 11);
        Check.badScript("picnic ann 0 0 1 0;", range, 13);
        Check.badScript("picnic ann 0 25 1 0;", range, 13);
        Check.badScript("picnic ann 0 1 0 0;", range, 15);
        Check.badScript("picnic ann 0 1 501 0;", range, 15);
        Check.badScript("picnic ann 0 1 1 51;", range, 17);
        Check.badScript("claim 20;", range, 6);
        Check.badScript("claim ann;", syntax, 6);
        Check.badScript("deposit ann 0;", range, 12);
        Check.badScript("deposit ann 1000;", range, 12);
        Check.badScript("deposit dan 0;", name, 8);
        Check.badScript("holder ann 5;", syntax, 0);
        Check.badScript(";", syntax, 0);
        Check.badScript("12", syntax, 0);
        Check.badScript("hours 1 1 1;;", syntax, 12);
        Check.badScript("claim 1,", syntax, 7);
        String thirty = "claim 0;".repeat(30);
        Check.badScript(thirty + " claim 99;", WeatherInsurance.TOO_MANY, 241);
        Check.badScript(thirty + "hours", WeatherInsurance.TOO_MANY, 240);
        Check.badScript(thirty + "claims 0;", syntax, 240);
        Check.badScript(thirty + "8", syntax, 240);
        Check.badScript("claim 0;".repeat(29) + "claim 99;claim 0;", range, 238);
    }

    private static void p05ScriptIsOneChange() {
        WeatherInsurance x = new WeatherInsurance();
        Check.script(x, "hours 2 1 1;deposit ann 5;kite bob 9 1 1 0 0;");
        Check.script(x, "");
        Check.script(x, "claim 7;");
        Check.same("undo a script that stopped at once", x.undo(), 2);
        Check.same("undo an empty script", x.undo(), 1);
        Check.same("clock", x.clock(), 2);
        Check.same("undo three statements", x.undo(), 0);
        Check.same("clock undone", x.clock(), 0);
        Check.same("deposit undone", x.balance(0), 200);
        Check.same("policy undone", x.policyCount(), 0);
        Check.noElement("all undone", x::undo);
    }

    private static void p06p07ErrorsOfTheLatestText() {
        WeatherInsurance x = new WeatherInsurance();
        Check.script(x, "foo");
        Check.same("code", x.errorCode(), WeatherInsurance.SYNTAX);
        Check.same("offset", x.errorOffset(), 0);
        x.passHour(0, 0);
        x.saveState();
        Check.setup(x, "holder a 5;");
        Check.same("code of the later", x.errorCode(), WeatherInsurance.TOO_FEW);
        Check.same("offset of the later", x.errorOffset(), 11);
        x.undo();
        Check.same("code after undo", x.errorCode(), WeatherInsurance.TOO_FEW);
        x.restoreState();
        Check.same("offset after restore", x.errorOffset(), 11);
        Check.script(x, "claim 3;");
        Check.same("code of a valid script", x.errorCode(), WeatherInsurance.NO_ERROR);
        Check.same("offset of a valid script", x.errorOffset(), WeatherInsurance.NONE);
        Check.setup(x, "assessor 11;");
        Check.same("code of a setup", x.errorCode(), WeatherInsurance.OUT_OF_RANGE);
        Check.setup(x, "holder a 5;assessor 1;");
        Check.same("code of a valid setup", x.errorCode(), WeatherInsurance.NO_ERROR);
        Check.same("offset of a valid setup", x.errorOffset(), WeatherInsurance.NONE);
    }
}
