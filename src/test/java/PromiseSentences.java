/** The sentences of promises 1 to 51: texts, queries, sums, premiums and forecasts. */
final class PromiseSentences {
    private static final int NONE = WeatherInsurance.NONE;
    private static final String NO_HOLDER = "Throws `IndexOutOfBoundsException` if there is no such holder";
    private static final String NO_HOUR = "Throws `IndexOutOfBoundsException` if the hour is negative or has not passed";
    private static final String NO_POLICY = "Throws `IndexOutOfBoundsException` if there is no such policy";
    private static final String NO_CLAIM = "Throws `IndexOutOfBoundsException` if there is no such claim";
    private static final String NO_ASSESSOR = "Throws `IndexOutOfBoundsException` if there is no such assessor";

    private final Doc doc;

    PromiseSentences(Doc doc) {
        this.doc = doc;
    }

    void run() {
        texts();
        holders();
        weather();
        policies();
        claims();
        assessors();
        payments();
        sums();
        premiums();
        forecasts();
    }

    private void test(int promise, String sentence) {
        doc.test("Promise " + promise, sentence);
    }

    private void plain(int promise, String... sentences) {
        doc.plain("Promise " + promise, sentences);
    }

    // ---- numbers that are, and are not, those of something ----

    interface Query {
        void ask(WeatherInsurance x, int number);
    }

    /** The first and the last of count things can be asked for, and nothing before and behind them. */
    private static void bounds(WeatherInsurance x, int count, Query query) {
        if (count > 0) {
            Check.raises("the first of " + count, null, () -> query.ask(x, 0));
            Check.raises("the last of " + count, null, () -> query.ask(x, count - 1));
        }
        for (int number : new int[] {-1, count, count + 1, -count - 1, 32, 1 << 16, Integer.MIN_VALUE, Integer.MAX_VALUE}) {
            if (number < 0 || number >= count) {
                String before = Check.seen(x);
                Check.outOfBounds("number " + number + " of " + count, () -> query.ask(x, number));
                Check.same("nothing changed by number " + number, Check.seen(x), before);
            }
        }
    }

    static void holderBounds(Query query) {
        bounds(Check.with("holder a 99;assessor 0;"), 1, query);
        bounds(new WeatherInsurance(), 3, query);
        StringBuilder setup = new StringBuilder("assessor 0;");
        for (char name = 'a'; name <= 'h'; name++) {
            setup.append("holder ").append(name).append(" 99;");
        }
        WeatherInsurance x = Check.with(setup.toString());
        bounds(x, 8, query);
        Check.setup(x, "holder a 99;holder b 99;assessor 0;");
        bounds(x, 2, query);
    }

    private static void hourBounds(Query query) {
        WeatherInsurance x = new WeatherInsurance();
        bounds(x, 0, query);
        x.passHour(1, 1);
        bounds(x, 1, query);
        x.passHour(1, 1);
        x.undo();
        bounds(x, 1, query);
        Check.until(x, 1000);
        bounds(x, 1000, query);
    }

    static void policyBounds(Query query) {
        WeatherInsurance x = Check.with("holder a 99;assessor 0;");
        bounds(x, 0, query);
        x.buyKite(0, 0, 1, 1, 0, 0);
        x.buyPicnic(0, 0, 1, 1, 0);
        x.passHour(0, 0);
        bounds(x, 2, query);
        WeatherInsurance y = Check.with("holder a 99;assessor 0;");
        y.buyKite(0, 0, 1, 1, 0, 0);
        y.passHour(0, 0);
        y.buyKite(0, 1, 1, 1, 0, 0);
        y.undo();
        bounds(y, 1, query);
        WeatherInsurance full = Check.with("holder a 99;assessor 0;");
        for (int policy = 0; policy < 20; policy++) {
            full.buyKite(0, policy, 1, 1, 0, 0);
        }
        Check.until(full, 20);
        bounds(full, 20, query);
    }

    static void claimBounds(Query query) {
        WeatherInsurance x = Check.with("holder a 99;assessor 0;");
        for (int policy = 0; policy < 20; policy++) {
            x.buyKite(0, policy, 1, 1, 0, 0);
        }
        Check.until(x, 20);
        bounds(x, 0, query);
        x.fileClaim(0);
        x.fileClaim(1);
        x.undo();
        bounds(x, 1, query);
        for (int policy = 1; policy < 20; policy++) {
            x.fileClaim(policy);
        }
        bounds(x, 20, query);
    }

    private static void assessorBounds(Query query) {
        WeatherInsurance x = new WeatherInsurance();
        bounds(x, 2, query);
        Check.setup(x, "holder a 99;assessor 4;assessor 5;assessor 6;");
        bounds(x, 3, query);
        Check.setup(x, "holder a 99;assessor 4;");
        bounds(x, 1, query);
    }

    // ---- promises 1 to 7: texts ----

    private void texts() {
        newObject();
        appendInput();
        truncateInput();
        loadSetup();
        runScript();
        errorCode();
        errorOffset();
    }

    private void newObject() {
        test(1, "Creates the system with the setup \"holder ann 200;holder bob 60;holder cid 500;assessor 0;assessor 4;"
            + "reserve 300;\" and an empty input buffer.");
        WeatherInsurance x = new WeatherInsurance();
        Check.same("the buffer has no byte", x.truncateInput(1), false);
        Check.same("twenty bytes are the first", x.appendInput(0, 0, 0, 0, 0), 20);
        Check.same("three holders", x.holderCount(), 3);
        Check.same("their names", Check.name(x, 0) + Check.name(x, 1) + Check.name(x, 2), "annbobcid");
        Check.same("their balances", x.balance(0) + " " + x.balance(1) + " " + x.balance(2), "200 60 500");
        Check.same("two assessors", x.assessorCount(), 2);
        Check.same("their strictnesses", x.strictness(0) + " " + x.strictness(1), "0 4");
        Check.same("reserve", x.reserve(), 300);
        Check.same("like a setup that was loaded", Check.seen(x), Check.seen(Check.with(
            "holder ann 200;holder bob 60;holder cid 500;assessor 0;assessor 4;reserve 300;")));
        WeatherInsurance y = new WeatherInsurance();
        Check.same("the buffer is read as empty", y.runScript(), 0);
    }

    private void appendInput() {
        test(2, "Appends 20 bytes to the input buffer: the four bytes of each parameter, most significant byte first.");
        for (int place = 0; place < 20; place++) {
            int[] words = {0x20202020, 0x20202020, 0x20202020, 0x20202020, 0x20202020};
            words[place / 4] |= 0xff << 24 - 8 * (place % 4);
            WeatherInsurance x = new WeatherInsurance();
            x.appendInput(words[0], words[1], words[2], words[3], words[4]);
            Check.same("a wrong byte at " + place, x.runScript(), NONE);
            Check.same("it is found there", x.errorOffset(), place);
        }
        WeatherInsurance y = new WeatherInsurance();
        y.appendInput(0x686f6c64, 0x65722061, 0x62632037, 0x3b726573, 0x65727665);
        y.appendInput(0x2031323b, 0x61737365, 0x73736f72, 0x20333b20, 0x20202020);
        Check.same("a setup", y.loadSetup(), 1);
        Check.same("holder abc 7;reserve 12;assessor 3;", Check.name(y, 0) + y.balance(0) + y.reserve() + y.strictness(0), "abc7123");
        test(2, "Returns the new length of the buffer, or NONE without a change if the length would exceed 600.");
        WeatherInsurance z = new WeatherInsurance();
        Check.feed(z, "holder q 5;assessor 1;" + " ".repeat(558));
        Check.same("20 more make 600", z.appendInput(0x20202020, 0x20202020, 0x20202020, 0x20202020, 0x20202020), 600);
        Check.same("20 more do not fit", z.appendInput(-1, -1, -1, -1, -1), NONE);
        Check.same("nothing was appended", z.truncateInput(601), false);
        Check.same("without a change", z.loadSetup(), 1);
        Check.feed(z, "holder r 5;assessor 1;" + " ".repeat(559));
        Check.same("581 and 20 do not fit", z.appendInput(-1, -1, -1, -1, -1), NONE);
        Check.same("without a change", z.loadSetup(), 1);
        Check.same("and empty again", z.appendInput(0, 0, 0, 0, 0), 20);
        Check.same("of any length", z.truncateInput(13) ? z.appendInput(0, 0, 0, 0, 0) : 0, 33);
    }

    private void truncateInput() {
        plain(3, "Truncates the input buffer.");
        test(3, "Returns true, or false without a change if length is negative or greater than the current length.");
        WeatherInsurance x = new WeatherInsurance();
        Check.same("an empty buffer", x.truncateInput(0), true);
        Check.same("1 of an empty buffer", x.truncateInput(1), false);
        Check.feed(x, "holder q 5;assessor 1;!!");
        for (int length : new int[] {-1, 25, -24, Integer.MIN_VALUE, Integer.MAX_VALUE}) {
            Check.same("to " + length, x.truncateInput(length), false);
        }
        Check.same("to 24, as it is", x.truncateInput(24), true);
        Check.same("to 22", x.truncateInput(22), true);
        Check.same("not back to 23", x.truncateInput(23), false);
        Check.same("the first 22 bytes are left", x.loadSetup(), 1);
        Check.feed(x, "holder q 5;");
        Check.same("to 0", x.truncateInput(0), true);
        Check.same("nothing is left", x.runScript(), 0);
    }

    private void loadSetup() {
        test(4, "Parses the input buffer as a setup and empties the buffer in any case.");
        WeatherInsurance x = new WeatherInsurance();
        for (String text : new String[] {"holder a 5;assessor 1;", "holder a 5;", "!", "", " ".repeat(600)}) {
            Check.setup(x, text);
            Check.same("the buffer after <" + text.trim() + ">", x.truncateInput(1), false);
            Check.same("it can be filled after <" + text.trim() + ">", x.appendInput(0, 0, 0, 0, 0), 20);
            x.truncateInput(0);
        }
        Check.same("a script is no setup", Check.setup(x, "hours 1 1 1;"), NONE);
        validSetup();
        invalidSetup();
        test(4, "Returns the number of holders, or NONE if the setup is invalid.");
        Check.same("one", Check.setup(x, "assessor 0;holder b 5;"), 1);
        Check.same("eight", Check.setup(x, "holder a 1;holder b 1;holder c 1;holder d 1;holder e 1;holder f 1;holder g 1;"
            + "holder h 1;assessor 0;"), 8);
        Check.same("without a holder", Check.setup(x, "assessor 0;"), NONE);
        Check.same("with an error at its end", Check.setup(x, "holder b 5;assessor 0;reserve"), NONE);
        Check.same("an empty one", x.loadSetup(), NONE);
    }

    /** An object of which much has been seen: a paid, a granted, a denied and an undecided claim, and a lapsed policy. */
    static WeatherInsurance busy() {
        WeatherInsurance x = Check.with("holder ann 200;holder bob 60;holder cid 500;assessor 0;assessor 4;reserve 90;",
            "kite ann 0 1 100 5 9;picnic cid 0 1 500 0;kite cid 0 2 500 0 0;picnic bob 30 5 200 0;kite ann 1 1 50 5 9;"
            + "hours 2 0 50;claim 0;claim 1;claim 2;hours 23 0 0;");
        x.deposit(1, 8);
        Check.whole(x, "claim 4;");
        x.saveState();
        x.writeClaim(0);
        return x;
    }

    private void validSetup() {
        test(4, "A valid setup replaces everything except the output: the clock is 0, there are no policies and no claims, all "
            + "sums are 0, no change can be undone, and no state is saved.");
        WeatherInsurance x = busy();
        Check.same("much has been done", x.clock() > 0 && x.claimCount() == 4 && x.totalPaid() > 0 && x.openPayments() > 0
            && x.lapsedCount() == 1 && x.totalDeposits() == 8, true);
        String output = Check.output(x);
        String setup = "holder ann 200;holder bob 60;assessor 0;assessor 4;";
        Check.same("setup", Check.setup(x, setup), 2);
        Check.same("the output stays", Check.output(x), output);
        Check.same("nothing else does", Check.seen(x), output + Check.seen(Check.with(setup)));
        Check.same("clock", x.clock(), 0);
        Check.same("policies and claims", x.policyCount() + x.claimCount(), 0);
        Check.same("sums", x.totalPremiums() + x.totalPaid() + x.totalDeposits() + x.openPayments() + x.lapsedCount(), 0);
        Check.noElement("no change can be undone", x::undo);
        Check.noElement("no state is saved", x::restoreState);
        Check.outOfBounds("no hour has passed", () -> x.wind(0));
        // what comes then does not see what was before
        WeatherInsurance y = Check.with(setup);
        for (WeatherInsurance each : new WeatherInsurance[] {x, y}) {
            Check.whole(each, "kite ann 0 3 40 5 9;picnic ann 0 1 40 3;kite bob 30 1 40 0 0;kite bob 30 1 40 0 0;"
                + "picnic bob 1 1 9 9;hours 1 0 4;claim 1;hours 1 7 1;");
        }
        Check.same("the same as in a new object", Check.seen(x), output + Check.seen(y));
        Check.same("one change", x.undo(), 0);
    }

    private void invalidSetup() {
        test(4, "An invalid setup leaves everything as it was.");
        String[] texts = {"holder z 5;assessor 9;reserve 1;x", "holder z 5;holder y 6;", "assessor 9;assessor 8;assessor 7;",
            "holder z 5;assessor 9;reserve 10000;", "", "holder z 5;holder z 6;assessor 9;", "holder z 5;assessor 10;"};
        for (String text : texts) {
            WeatherInsurance x = busy();
            String before = Check.seen(x);
            Check.same("<" + text + ">", Check.setup(x, text), NONE);
            Check.same("all that is seen after <" + text + ">", Check.seen(x), before);
            Check.same("the changes can be undone", x.undo(), 2);
            Check.same("the saved state can be restored", x.restoreState(), 25);
            Check.same("and is as it was", Check.seen(x), before);
            Check.same("the names are as they were", Check.script(x, "deposit cid 1;"), 1);
        }
    }

    private void runScript() {
        test(5, "Parses the input buffer as a script and empties the buffer in any case.");
        WeatherInsurance x = new WeatherInsurance();
        for (String text : new String[] {"hours 1 1 1;", "claim 5;", "hours 0 0 0;", "!", "", " ".repeat(600)}) {
            Check.script(x, text);
            Check.same("the buffer after <" + text.trim() + ">", x.truncateInput(1), false);
            Check.same("it can be filled after <" + text.trim() + ">", x.appendInput(0, 0, 0, 0, 0), 20);
            x.truncateInput(0);
        }
        Check.same("a setup is no script", Check.script(x, "holder a 5;assessor 1;"), NONE);
        scriptIsOneChange();
        test(5, "An invalid script is not executed.");
        Check.badScript("hours 5 5 5;deposit ann 5;kite ann 9 1 1 0 0;x", WeatherInsurance.SYNTAX, 45);
        Check.badScript("hours 5 5 5;deposit ann 1000;", WeatherInsurance.OUT_OF_RANGE, 24);
        Check.badScript("deposit ann 5;deposit dan 5;", WeatherInsurance.BAD_NAME, 22);
        Check.badScript("deposit ann 5;".repeat(31), WeatherInsurance.TOO_MANY, 420);
        Check.badScript("hours 5 5 5", WeatherInsurance.SYNTAX, 11);
        WeatherInsurance y = new WeatherInsurance();
        for (int i = 0; i < 8; i++) {
            y.deposit(0, 1);
        }
        Check.script(y, "deposit ann 5;x");
        Check.same("it drops no change", y.undo(), 7);
        test(5, "Returns the number of statements executed, or NONE if the script is invalid.");
        Check.same("none", Check.script(x, ""), 0);
        Check.same("the first is refused", Check.script(x, "claim 5;deposit ann 5;"), 0);
        Check.same("the second is refused", Check.script(x, "deposit ann 5;claim 5;"), 1);
        Check.same("all of thirty", Check.script(x, "deposit ann 5;".repeat(30)), 30);
        Check.same("29 of thirty", Check.script(x, "deposit ann 5;".repeat(29) + "claim 5;"), 29);
        Check.same("48 hours are one statement", Check.script(x, "hours 48 1 1;hours 48 1 1;"), 2);
        Check.same("an invalid one", Check.script(x, "deposit ann 5;claim 20;"), NONE);
    }

    private void scriptIsOneChange() {
        test(5, "A valid script is executed, and its execution is one change, even if no statement is executed.");
        WeatherInsurance x = new WeatherInsurance();
        String before = Check.seen(x);
        Check.whole(x, "hours 48 1 1;deposit ann 5;kite bob 50 1 1 0 0;hours 3 0 0;claim 0;");
        String after = Check.seen(x);
        Check.script(x, "claim 9;");
        Check.script(x, "");
        Check.script(x, " \n ");
        Check.same("nothing more was executed", Check.seen(x), after);
        Check.same("spaces are a change", x.undo(), 3);
        Check.same("an empty script is a change", x.undo(), 2);
        Check.same("a script that stops at once is a change", x.undo(), 1);
        Check.same("as after the first script", Check.seen(x), after);
        Check.same("five statements are one change", x.undo(), 0);
        Check.same("as at first", Check.seen(x), before);
        x.deposit(0, 1);
        for (int i = 0; i < 8; i++) {
            Check.script(x, "");
        }
        for (int left = 7; left >= 0; left--) {
            Check.same("empty scripts fill the eight", x.undo(), left);
        }
        Check.same("the deposit was dropped", x.balance(0), 201);
        Check.noElement("and cannot be undone", x::undo);
    }

    private void errorCode() {
        test(6, "Returns the error code of the latest call of loadSetup or runScript.");
        WeatherInsurance x = new WeatherInsurance();
        Check.setup(x, "holder a 5;");
        Check.same("a setup", x.errorCode(), WeatherInsurance.TOO_FEW);
        Check.script(x, "deposit dan 5;");
        Check.same("a script", x.errorCode(), WeatherInsurance.BAD_NAME);
        Check.setup(x, "assessor 10;");
        Check.same("a setup after a script", x.errorCode(), WeatherInsurance.OUT_OF_RANGE);
        Check.script(x, "claim 0;".repeat(31));
        Check.same("a script after a setup", x.errorCode(), WeatherInsurance.TOO_MANY);
        x.appendInput(0, 0, 0, 0, 0);
        x.truncateInput(5);
        x.passHour(0, 0);
        x.saveState();
        Check.same("other calls leave it", x.errorCode(), WeatherInsurance.TOO_MANY);
        x.runScript();
        Check.same("the latest", x.errorCode(), WeatherInsurance.SYNTAX);
        test(6, "Returns the error code, or NO_ERROR if that text was valid or there was no such call.");
        Check.same("no such call", new WeatherInsurance().errorCode(), WeatherInsurance.NO_ERROR);
        Check.same("an invalid setup", Check.setup(x, "x"), NONE);
        Check.same("a valid script", Check.script(x, "claim 0;") * 10 + x.errorCode(), WeatherInsurance.NO_ERROR);
        Check.same("an invalid script", Check.script(x, "x"), NONE);
        Check.same("its code", x.errorCode(), WeatherInsurance.SYNTAX);
        Check.setup(x, "holder a 5;assessor 1;");
        Check.same("a valid setup", x.errorCode(), WeatherInsurance.NO_ERROR);
    }

    private void errorOffset() {
        test(7, "Returns the offset of the error of the latest call of loadSetup or runScript.");
        WeatherInsurance x = new WeatherInsurance();
        Check.setup(x, "holder a 5;");
        Check.same("a setup", x.errorOffset(), 11);
        Check.script(x, "!");
        Check.same("the least offset", x.errorOffset(), 0);
        Check.script(x, " ".repeat(599) + "!");
        Check.same("the last byte", x.errorOffset(), 599);
        Check.setup(x, " ".repeat(600));
        Check.same("the greatest offset", x.errorOffset(), 600);
        x.appendInput(0, 0, 0, 0, 0);
        x.passHour(0, 0);
        Check.same("other calls leave it", x.errorOffset(), 600);
        test(7, "Returns the offset in bytes, or NONE if errorCode() is NO_ERROR.");
        Check.same("no such call", new WeatherInsurance().errorOffset(), NONE);
        x.truncateInput(0);
        Check.same("a valid script", x.runScript(), 0);
        Check.same("its offset", x.errorOffset(), NONE);
        Check.script(x, "x");
        Check.same("an offset of 0 is no NONE", x.errorOffset(), 0);
        Check.setup(x, "holder a 5;assessor 1;");
        Check.same("a valid setup", x.errorOffset(), NONE);
        Check.script(x, "deposit a 5;claim 3;");
        Check.same("a script that stops is valid", x.errorOffset(), NONE);
    }

    // ---- promises 8 to 15: holders and weather ----

    private void holders() {
        plain(8, "Returns the time.", "Returns the number of hours that have passed.");
        plain(9, "Returns the money of the insurer.", "Returns the reserve.");
        plain(10, "Returns the number of holders.", "Returns the number of holders.");
        nameByte();
        plain(12, "Returns the balance of a holder.", "Returns the balance.");
        test(12, NO_HOLDER);
        holderBounds((x, holder) -> x.balance(holder));
        plain(13, "Returns the daily premiums of a holder.");
        dailyPremiums();
        test(13, NO_HOLDER);
        holderBounds((x, holder) -> x.dailyPremiums(holder));
    }

    private void nameByte() {
        plain(11, "Returns a letter of the name of a holder.");
        WeatherInsurance x = Check.with("holder b 1;holder qrstuv 2;holder za 3;assessor 1;");
        test(11, "- `index`: index of the letter, starting at 0");
        Check.same("the only letter", x.nameByte(0, 0), 98);
        Check.same("first letter", x.nameByte(1, 0), 113);
        Check.same("second letter", x.nameByte(1, 1), 114);
        Check.same("sixth letter", x.nameByte(1, 5), 118);
        test(11, "Returns the letter as a byte, or NONE if the name has no letter with this index.");
        Check.same("a", x.nameByte(2, 1), 97);
        Check.same("z", x.nameByte(2, 0), 122);
        int[] lengths = {1, 6, 2};
        for (int holder = 0; holder < 3; holder++) {
            for (int index : new int[] {-1, lengths[holder], 6, 7, -6, Integer.MIN_VALUE, Integer.MAX_VALUE}) {
                Check.same("letter " + index + " of " + holder, x.nameByte(holder, index), NONE);
            }
        }
        test(11, NO_HOLDER);
        holderBounds((y, holder) -> y.nameByte(holder, 0));
        holderBounds((y, holder) -> y.nameByte(holder, -1));
        holderBounds((y, holder) -> y.nameByte(holder, Integer.MAX_VALUE));
    }

    private void dailyPremiums() {
        test(13, "Returns the sum of the premiums of the active policies of the holder.");
        WeatherInsurance x = Check.with("holder a 70;holder b 99;assessor 0;");
        Check.same("no policy", x.dailyPremiums(0), 0);
        Check.whole(x, "kite a 40 1 400 0 0;picnic a 2 3 60 5;kite b 40 1 40 0 0;kite a 26 1 500 0 0;"
            + "kite a 26 1 500 0 0;");
        Check.same("11 + 7 + 13 + 13", x.dailyPremiums(0), 44);
        Check.same("the other holder's", x.dailyPremiums(1), 2);
        Check.until(x, 4);
        Check.same("the last hour of the second", x.dailyPremiums(0), 44);
        x.passHour(0, 0);
        Check.same("the second is over", x.dailyPremiums(0), 37);
        Check.until(x, 25);
        Check.same("26 are left: 11, 13 and no 13", x.dailyPremiums(0), 24);
        Check.until(x, 27);
        Check.same("the third is over", x.dailyPremiums(0), 11);
        Check.until(x, 41);
        Check.same("all are over", x.dailyPremiums(0) + x.dailyPremiums(1), 0);
    }

    private void weather() {
        plain(14, "Returns the wind of a past hour.", "Returns the recorded wind.");
        test(14, NO_HOUR);
        hourBounds((x, hour) -> x.wind(hour));
        plain(15, "Returns the rain of a past hour.", "Returns the recorded rain.");
        test(15, NO_HOUR);
        hourBounds((x, hour) -> x.rain(hour));
    }

    // ---- promises 16 to 26: policies ----

    private void policies() {
        policyCount();
        plain(17, "Tells whether a policy is a kite policy.", "Returns true for a kite policy, false for a picnic policy.");
        plain(18, "Returns the holder of a policy.", "Returns the number of the holder.");
        plain(19, "Returns the first insured hour of a policy.", "Returns the number of the hour.");
        plain(20, "Returns the number of insured hours of a policy.", "Returns the number of hours.");
        plain(21, "Returns the cover of a policy.", "Returns the cover.");
        plain(22, "Returns the premium of a policy.", "Returns the premium.");
        isActive();
        hasLapsed();
        damage();
        claimObstacle();
        noSuchPolicy();
    }

    private void policyCount() {
        plain(16, "Returns the number of policies.");
        test(16, "Returns the number of policies that were ever bought.");
        WeatherInsurance x = Check.with("holder a 2;assessor 0;");
        Check.same("none", x.policyCount(), 0);
        x.buyKite(0, 1, 1, 1, 0, 0);
        x.buyKite(0, 30, 1, 1, 0, 0);
        Check.raises("a refused one", IllegalStateException.class, () -> x.buyKite(0, 1, 1, 1, 0, 0));
        Check.same("two", x.policyCount(), 2);
        Check.until(x, 40);
        Check.same("one is over, and one has lapsed", x.lapsedCount() + " " + x.isActive(0), "1 false");
        Check.same("still two", x.policyCount(), 2);
    }

    private void isActive() {
        plain(23, "Tells whether a policy is active.");
        test(23, "Returns true if it has neither lapsed nor expired.");
        WeatherInsurance x = Check.with("holder a 99;holder b 16;assessor 0;", "kite a 2 3 9 0 0;picnic b 30 5 60 0;");
        Check.same("before its hours", x.isActive(0), true);
        Check.until(x, 4);
        Check.same("in its last hour", x.isActive(0), true);
        Check.until(x, 5);
        Check.same("at its expiry", x.isActive(0), false);
        Check.until(x, 24);
        Check.same("when the premium is due", x.isActive(1), true);
        x.passHour(0, 0);
        Check.same("lapsed, not expired", x.isActive(1), false);
        Check.until(x, 35);
        Check.same("lapsed, and its hours are over", x.isActive(1), false);
    }

    private void hasLapsed() {
        plain(24, "Tells whether a policy has lapsed.");
        test(24, "Returns true if it has lapsed.");
        WeatherInsurance x = Check.with("holder a 99;holder b 16;assessor 0;", "kite a 2 3 9 0 0;picnic b 30 5 60 0;hours 24 0 0;");
        Check.same("expired, not lapsed", x.hasLapsed(0), false);
        Check.same("not yet", x.hasLapsed(1), false);
        x.passHour(0, 0);
        Check.same("lapsed", x.hasLapsed(1), true);
        Check.same("not the other one", x.hasLapsed(0), false);
        x.deposit(1, 999);
        Check.until(x, 50);
        Check.same("for ever", x.hasLapsed(1), true);
    }

    private void damage() {
        plain(25, "Returns the damage of a policy by the weather recorded so far.");
        test(25, "Returns the damage; insured hours that have not passed do not count as damaged.");
        WeatherInsurance x = new WeatherInsurance();
        x.buyKite(0, 0, 2, 100, 5, 9);
        x.buyPicnic(0, 0, 2, 10, 0);
        x.buyKite(0, 1000, 24, 1, 5, 9);
        Check.same("no hour has passed", x.damage(0) + x.damage(1) + x.damage(2), 0);
        x.passHour(0, 2);
        Check.same("one of two", x.damage(0), 50);
        Check.same("the rain of one", x.damage(1), 2);
        x.passHour(0, 3);
        Check.same("two of two", x.damage(0), 100);
        Check.same("the rain of two", x.damage(1), 5);
        x.undo();
        Check.same("an hour that was undone has not passed", x.damage(0), 50);
        Check.same("nor has its rain fallen", x.damage(1), 2);
        Check.until(x, 1000);
        Check.same("beyond the last hour", x.damage(2), 0);
    }

    private void claimObstacle() {
        plain(26, "Tells whether a claim can be filed for a policy now.");
        test(26, "Returns MAY_CLAIM, or the smallest of LAPSED, NOT_OVER, TOO_LATE, ALREADY_CLAIMED and DUPLICATE that applies.");
        WeatherInsurance x = Check.with("holder a 99;holder b 16;assessor 0;",
            "kite a 0 1 9 0 0;kite a 0 1 9 0 0;kite a 0 2 9 0 0;picnic b 30 5 60 0;hours 1 0 0;");
        Check.same("may claim", x.claimObstacle(0), WeatherInsurance.MAY_CLAIM);
        x.fileClaim(0);
        Check.same("already claimed, and its own duplicate", x.claimObstacle(0), WeatherInsurance.ALREADY_CLAIMED);
        Check.same("duplicate", x.claimObstacle(1), WeatherInsurance.DUPLICATE);
        Check.same("not over, and duplicate", x.claimObstacle(2), WeatherInsurance.NOT_OVER);
        Check.same("not over", x.claimObstacle(3), WeatherInsurance.NOT_OVER);
        Check.until(x, 25);
        Check.same("lapsed, and not over", x.claimObstacle(3), WeatherInsurance.LAPSED);
        Check.until(x, 73);
        Check.same("in time and claimed", x.claimObstacle(0), WeatherInsurance.ALREADY_CLAIMED);
        x.passHour(0, 0);
        Check.same("too late, and claimed", x.claimObstacle(0), WeatherInsurance.TOO_LATE);
        Check.same("too late, and duplicate", x.claimObstacle(1), WeatherInsurance.TOO_LATE);
        Check.same("in time and duplicate", x.claimObstacle(2), WeatherInsurance.DUPLICATE);
        Check.until(x, 108);
        Check.same("lapsed, and too late", x.claimObstacle(3), WeatherInsurance.LAPSED);
    }

    private void noSuchPolicy() {
        Query[] queries = {
            (x, policy) -> x.isKite(policy), (x, policy) -> x.holderOf(policy), (x, policy) -> x.firstHour(policy),
            (x, policy) -> x.insuredHours(policy), (x, policy) -> x.cover(policy), (x, policy) -> x.premium(policy),
            (x, policy) -> x.isActive(policy), (x, policy) -> x.hasLapsed(policy), (x, policy) -> x.damage(policy),
            (x, policy) -> x.claimObstacle(policy)};
        for (int i = 0; i < queries.length; i++) {
            test(17 + i, NO_POLICY);
            policyBounds(queries[i]);
        }
    }

    // ---- promises 27 to 33: claims ----

    private void claims() {
        claimCount();
        plain(28, "Returns the policy of a claim.", "Returns the number of the policy.");
        plain(29, "Returns the assessor of a claim.", "Returns the number of the assessor.");
        plain(30, "Tells whether a claim is undecided.");
        plain(31, "Tells whether a claim was denied.");
        plain(32, "Tells whether a claim was paid.");
        plain(33, "Returns the amount that was granted for a claim.");
        statesOfClaims();
        Query[] queries = {
            (x, claim) -> x.policyOf(claim), (x, claim) -> x.assessorOf(claim), (x, claim) -> x.isUndecided(claim),
            (x, claim) -> x.isDenied(claim), (x, claim) -> x.isPaid(claim), (x, claim) -> x.grantedAmount(claim)};
        for (int i = 0; i < queries.length; i++) {
            test(28 + i, NO_CLAIM);
            claimBounds(queries[i]);
        }
    }

    private void claimCount() {
        plain(27, "Returns the number of claims.");
        test(27, "Returns the number of claims that were ever filed.");
        WeatherInsurance x = Check.with("holder a 99;assessor 0;", "kite a 0 1 9 0 0;kite a 1 1 9 5 9;kite a 2 1 9 0 0;hours 2 0 0;");
        Check.same("none", x.claimCount(), 0);
        x.fileClaim(0);
        x.fileClaim(1);
        Check.badState("a refused one", () -> x.fileClaim(2));
        Check.same("two", x.claimCount(), 2);
        Check.until(x, 6);
        Check.same("one was denied, and one paid", x.isDenied(0) && x.isPaid(1), true);
        Check.same("still two", x.claimCount(), 2);
    }

    /** Claims of no damage, of damage that the reserve pays, and of damage that it does not pay. */
    private static WeatherInsurance threeClaims() {
        return Check.with("holder a 99;assessor 0;reserve 0;",
            "kite a 0 1 400 0 0;kite a 1 1 12 5 9;kite a 2 1 400 5 9;hours 3 0 0;claim 0;claim 1;claim 2;");
    }

    private void statesOfClaims() {
        WeatherInsurance at1 = threeClaims();
        at1.passHour(0, 0);
        WeatherInsurance at2 = threeClaims();
        Check.pass(at2, 2, 0, 0);
        WeatherInsurance at6 = threeClaims();
        Check.pass(at6, 6, 0, 0);
        test(30, "Returns true if its assessment is not finished.");
        Check.same("one of two hours", at1.isUndecided(0), true);
        Check.same("two of two hours: denied", at2.isUndecided(0), false);
        Check.same("not begun", at2.isUndecided(1), true);
        Check.same("paid", at6.isUndecided(1), false);
        Check.same("granted and unpaid", at6.isUndecided(2), false);
        test(31, "Returns true if it was denied.");
        Check.same("undecided", at1.isDenied(0), false);
        Check.same("decided", at2.isDenied(0), true);
        Check.same("paid", at6.isDenied(1), false);
        Check.same("granted and unpaid", at6.isDenied(2), false);
        test(32, "Returns true if it was paid.");
        Check.same("undecided", at2.isPaid(1), false);
        Check.same("denied", at2.isPaid(0), false);
        Check.same("paid", at6.isPaid(1), true);
        Check.same("granted and unpaid", at6.isPaid(2), false);
        test(33, "Returns the amount, or 0 if the claim is undecided or was denied.");
        Check.same("undecided, with a damage of 12", at2.grantedAmount(1), 0);
        Check.same("its damage", at2.damage(1), 12);
        Check.same("denied", at2.grantedAmount(0), 0);
        Check.same("paid", at6.grantedAmount(1), 12);
        Check.same("granted and unpaid", at6.grantedAmount(2), 400);
    }

    // ---- promises 34 to 37: assessors ----

    private void assessors() {
        plain(34, "Returns the number of assessors.", "Returns the number of assessors.");
        plain(35, "Returns the strictness of an assessor.", "Returns the strictness.");
        plain(36, "Returns the number of undecided claims of an assessor.");
        plain(37, "Returns the assessor who would get the next claim.");
        test(35, NO_ASSESSOR);
        assessorBounds((x, assessor) -> x.strictness(assessor));
        test(36, NO_ASSESSOR);
        assessorBounds((x, assessor) -> x.workload(assessor));
        WeatherInsurance x = Check.with("holder a 99;assessor 9;assessor 0;assessor 0;",
            "kite a 0 1 1 0 0;kite a 1 1 1 0 0;kite a 2 1 1 0 0;kite a 3 1 1 0 0;kite a 4 1 1 0 0;hours 5 0 0;");
        test(36, "Returns the number of claims, including the one being assessed.");
        Check.same("none", x.workload(0) + x.workload(1) + x.workload(2), 0);
        Check.whole(x, "claim 0;claim 1;claim 2;claim 3;");
        Check.same("two", x.workload(0), 2);
        x.passHour(0, 0);
        Check.same("the one being assessed counts", x.workload(0) + " " + x.workload(1), "2 1");
        x.passHour(0, 0);
        Check.same("decided ones do not count", x.workload(1), 0);
        Check.pass(x, 9, 0, 0);
        Check.same("one is decided", x.workload(0), 1);
        test(37, "Returns the number of the assessor with the smallest workload; the smallest number in a tie.");
        WeatherInsurance y = Check.with("holder a 99;assessor 9;assessor 1;assessor 0;",
            "kite a 0 1 1 0 0;kite a 1 1 1 0 0;kite a 2 1 1 0 0;kite a 3 1 1 0 0;hours 4 0 0;");
        for (int claim = 0; claim < 4; claim++) {
            Check.same("a tie, or the first that has less", y.nextAssessor(), claim % 3);
            Check.same("filed", y.fileClaim(claim), claim);
            Check.same("the next claim's assessor", y.assessorOf(claim), claim % 3);
        }
        Check.same("2 1 1", y.nextAssessor(), 1);
        Check.pass(y, 2, 0, 0);
        Check.same("2 1 0", y.nextAssessor(), 2);
        Check.pass(y, 1, 0, 0);
        Check.same("2 0 0", y.nextAssessor(), 1);
        Check.same("one assessor", Check.with("holder a 5;assessor 9;").nextAssessor(), 0);
    }

    // ---- promises 38 to 46: payments and sums ----

    private void payments() {
        plain(38, "Returns the first claim that is granted and not paid.");
        test(38, "Returns the number of the claim that will be paid next, or NONE if there is none.");
        Check.same("a new object", new WeatherInsurance().nextPayment(), NONE);
        WeatherInsurance x = Check.with("holder a 99;assessor 9;assessor 0;reserve 0;",
            "picnic a 0 1 400 0;kite a 0 1 400 5 9;kite a 1 1 400 0 0;hours 2 0 50;");
        Check.same("no claim", x.nextPayment(), NONE);
        Check.whole(x, "claim 0;claim 1;hours 1 0 0;");
        Check.same("undecided", x.nextPayment(), NONE);
        x.passHour(0, 0);
        Check.same("the one decided first", x.nextPayment(), 1);
        Check.whole(x, "claim 2;hours 9 0 0;");
        Check.same("a denied one", x.isDenied(2), true);
        Check.same("still the one decided first", x.nextPayment(), 1);
        x.deposit(0, 999);
        x.buyKite(0, 90, 24, 500, 0, 0);
        x.buyKite(0, 90, 24, 100, 0, 0);
        Check.same("enough for one of them", x.reserve(), 405);
        x.passHour(0, 0);
        Check.same("the other one", x.nextPayment(), 0);
        plain(39, "Returns the sum of the granted amounts that are not paid.");
        test(39, "Returns the sum.");
        Check.same("a new object", new WeatherInsurance().openPayments(), 0);
        Check.same("one is paid", x.openPayments(), 220);
        x.undo();
        Check.same("none is paid", x.openPayments(), 620);
        x.passHour(0, 0);
        x.buyKite(0, 90, 24, 500, 0, 0);
        x.passHour(0, 0);
        Check.same("all are paid", x.openPayments(), 0);
        Check.same("nothing is next", x.nextPayment(), NONE);
    }

    private void sums() {
        for (int promise = 40; promise <= 42; promise++) {
            test(promise, "Returns the sum.");
            WeatherInsurance x = new WeatherInsurance();
            Check.same("of nothing", promise == 40 ? x.totalPremiums() : promise == 41 ? x.totalPaid() : x.totalDeposits(), 0);
        }
        plain(40, "Returns the sum of all premiums paid.");
        plain(41, "Returns the sum of all claims paid.");
        plain(42, "Returns the sum of all deposits.");
        luckiestHolder();
        lapsedCount();
        lossRatio();
        grantedPart();
    }

    private void luckiestHolder() {
        plain(43, "Returns the holder who received the most.");
        test(43, "Returns the holder with the greatest sum of paid claims; the smallest number in a tie.");
        Check.same("nobody received anything", new WeatherInsurance().luckiestHolder(), 0);
        WeatherInsurance x = Check.with("holder a 99;holder b 99;holder c 99;assessor 0;reserve 999;",
            "kite c 0 1 50 5 9;kite b 0 1 20 5 9;picnic b 0 1 30 0;kite a 0 1 49 5 9;kite a 1 1 2 5 9;hours 2 0 50;");
        x.deposit(0, 999);
        Check.same("a deposit is no claim", x.luckiestHolder(), 0);
        Check.whole(x, "claim 0;claim 1;claim 2;claim 3;claim 4;hours 2 0 0;");
        Check.same("50 for the third", x.luckiestHolder(), 2);
        Check.pass(x, 2, 0, 0);
        Check.same("20 for the second are less", x.luckiestHolder(), 2);
        Check.pass(x, 2, 0, 0);
        Check.same("50 for both", x.luckiestHolder(), 1);
        Check.pass(x, 2, 0, 0);
        Check.same("49 for the first are one less", x.luckiestHolder(), 1);
        Check.pass(x, 2, 0, 0);
        Check.same("51 for the first are one more", x.luckiestHolder(), 0);
    }

    private void lapsedCount() {
        plain(44, "Returns the number of policies.");
        test(44, "Returns the number of policies that have lapsed.");
        WeatherInsurance x = Check.with("holder a 99;assessor 0;");
        Check.same("no policy", x.lapsedCount(), 0);
        for (int policy = 0; policy < 20; policy++) {
            x.buyKite(0, 60, 1, 120, 0, 0);
        }
        Check.same("no policy has lapsed", x.lapsedCount(), 0);
        Check.same("19 are left", x.balance(0), 19);
        Check.until(x, 24);
        Check.same("none before", x.lapsedCount(), 0);
        x.passHour(0, 0);
        Check.same("four are paid", x.lapsedCount(), 16);
        x.deposit(0, 1);
        Check.until(x, 49);
        Check.same("the first is paid", x.hasLapsed(0), false);
        Check.same("the others have lapsed", x.lapsedCount(), 19);
        x.deposit(0, 999);
        Check.until(x, 70);
        Check.same("over without lapsing", x.lapsedCount(), 19);
        WeatherInsurance y = Check.with("holder a 1;assessor 0;", "kite a 60 1 1 0 0;hours 25 0 0;");
        Check.same("the only one", y.lapsedCount(), 1);
    }

    private void lossRatio() {
        plain(45, "Returns the quotient of claims and premiums.");
        test(45, "Returns the sum of the claims paid divided by the sum of the premiums paid, both converted to double, or 0.0 "
            + "if no premium was paid.");
        WeatherInsurance x = Check.with("holder a 99;assessor 0;reserve 999;");
        Check.same("no premium", x.lossRatio(), 0.0);
        Check.whole(x, "kite a 0 1 100 5 9;hours 1 0 0;claim 0;");
        Check.same("nothing paid", x.lossRatio(), 0.0);
        Check.pass(x, 2, 0, 0);
        Check.same("100 of 3", x.lossRatio(), 100.0 / 3.0);
        x.buyKite(0, 9, 1, 500, 0, 0);
        Check.same("100 of 16", x.lossRatio(), 6.25);
    }

    private void grantedPart() {
        plain(46, "Returns the part of the decided claims that was granted.");
        test(46, "Returns the number of granted claims divided by the number of decided claims, both converted to float, or 0 "
            + "if none is decided.");
        Check.same("no claim", new WeatherInsurance().grantedPart(), 0.0f);
        WeatherInsurance x = threeClaims();
        Check.same("none is decided", x.grantedPart(), 0.0f);
        Check.pass(x, 2, 0, 0);
        Check.same("0 of 1", x.grantedPart(), 0.0f);
        Check.pass(x, 2, 0, 0);
        Check.same("1 of 2: paid", x.grantedPart(), 0.5f);
        Check.pass(x, 2, 0, 0);
        Check.same("2 of 3: paid, and unpaid", x.grantedPart(), 2.0f / 3.0f);
    }

    // ---- promises 47 to 51: premiums and forecasts ----

    private void premiums() {
        WeatherInsurance x = new WeatherInsurance();
        int[] notHours = {0, 25, -1, -24, Integer.MIN_VALUE, Integer.MAX_VALUE};
        int[] notCovers = {0, 501, -1, -500, Integer.MIN_VALUE, Integer.MAX_VALUE};
        int[] notLimits = {-1, 51, -10, Integer.MIN_VALUE, Integer.MAX_VALUE};
        plain(47, "Computes the premium of a kite policy.", "Returns the premium.");
        test(47, "- `hours`: number of insured hours, 1 to 24");
        Check.same("1 and 24", x.kitePremium(1, 400) + x.kitePremium(24, 400), 11 + 241);
        test(47, "- `cover`: cover, 1 to 500");
        Check.same("1 and 500", x.kitePremium(24, 1) + x.kitePremium(24, 500), 1 + 301);
        test(47, "Throws `IllegalArgumentException` if hours or cover is outside its range");
        for (int hours : notHours) {
            Check.badArgument("hours " + hours, () -> x.kitePremium(hours, 1));
        }
        for (int cover : notCovers) {
            Check.badArgument("cover " + cover, () -> x.kitePremium(1, cover));
        }
        Check.badArgument("both", () -> x.kitePremium(0, 0));
        Check.badArgument("a product within its range", () -> x.kitePremium(-1, -1));
        plain(48, "Computes the premium of a picnic policy.", "Returns the premium.");
        test(48, "- `hours`: number of insured hours, 1 to 24");
        Check.same("1 and 24", x.picnicPremium(1, 400, 0) + x.picnicPremium(24, 400, 0), 21 + 481);
        test(48, "- `cover`: cover, 1 to 500");
        Check.same("1 and 500", x.picnicPremium(24, 1, 0) + x.picnicPremium(24, 500, 0), 2 + 601);
        test(48, "- `rainLimit`: rain limit, 0 to 50");
        Check.same("0 and 50", x.picnicPremium(24, 500, 0) + x.picnicPremium(24, 500, 50), 601 + 101);
        test(48, "Throws `IllegalArgumentException` if hours, cover or rainLimit is outside its range");
        for (int hours : notHours) {
            Check.badArgument("hours " + hours, () -> x.picnicPremium(hours, 1, 0));
        }
        for (int cover : notCovers) {
            Check.badArgument("cover " + cover, () -> x.picnicPremium(1, cover, 0));
        }
        for (int limit : notLimits) {
            Check.badArgument("limit " + limit, () -> x.picnicPremium(1, 1, limit));
        }
        Check.badArgument("all", () -> x.picnicPremium(0, 0, -10));
    }

    private void forecasts() {
        hoursUntilDecision();
        hoursUntilLapse();
        plain(51, "Checks the invariants: the reserve and the balances add up to the money of the setup and the deposits; every "
            + "claim is undecided, denied, granted and unpaid, or paid; no policy has more than one claim, and no two claims have "
            + "the same holder, kind and first hour; damages counted hour by hour equal damages counted from the sorted hours; "
            + "the paid claims add up to the sum of all claims paid.");
        test(51, "Returns true (always).");
        Check.same("a new object", new WeatherInsurance().isConsistent(), true);
        WeatherInsurance x = busy();
        Check.same("a busy one", x.isConsistent(), true);
        x.undo();
        Check.same("after undo", x.isConsistent(), true);
        x.restoreState();
        Check.same("after restoreState", x.isConsistent(), true);
        Check.until(x, 1000);
        x.buyKite(0, 1000, 24, 1, 0, 0);
        Check.same("at the end of the clock", x.isConsistent(), true);
        WeatherInsurance full = Check.with("holder a 9999;holder b 9999;assessor 0;assessor 9;assessor 9;reserve 9999;");
        int[] winds = {0, 19, 20, 40, 60, 61, 62, 150};
        for (int policy = 0; policy < 20; policy += 2) {
            full.buyKite(policy % 4 / 2, policy, 24, policy == 0 ? 1 : 500, 20, 60);
            full.buyPicnic(policy % 4 / 2, policy, 24, policy == 0 ? 1 : 50, 36);
        }
        for (int hour = 0; hour < 43; hour++) {
            full.passHour(winds[hour * 3 % 8], hour % 5 > 0 ? 1 + hour % 3 : 0);
            Check.same("at " + hour, full.isConsistent(), true);
        }
        for (int policy = 0; policy < 20; policy++) {
            full.fileClaim(policy);
        }
        Check.same("all policies are claimed", full.isConsistent(), true);
        Check.until(full, 200);
        Check.same("all claims are decided", full.workload(0) + full.workload(1) + full.workload(2), 0);
        Check.same("and it is still true", full.isConsistent(), true);
        WeatherInsurance least = Check.with("holder a 9;assessor 0;", "kite a 0 1 1 5 9;hours 1 0 0;claim 0;hours 2 0 0;");
        Check.same("a claim of 1 is paid", least.isConsistent() ? least.totalPaid() : 0, 1);
    }

    private void hoursUntilDecision() {
        plain(49, "Forecasts when a claim is decided.");
        test(49, "Returns the least number of hours after which it is decided, 0 if it is decided now.");
        WeatherInsurance x = Check.with("holder a 99;assessor 9;assessor 0;",
            "kite a 0 1 1 0 0;kite a 1 1 1 0 0;kite a 2 1 1 0 0;kite a 3 1 1 0 0;hours 4 0 0;claim 0;claim 1;claim 2;claim 3;");
        int[] due = {11, 2, 22, 4};
        for (int hour = 0; hour < 24; hour++) {
            for (int claim = 0; claim < 4; claim++) {
                int hours = Math.max(0, due[claim] - hour);
                Check.same("claim " + claim + " after " + hour, x.hoursUntilDecision(claim), hours);
                Check.same("undecided: claim " + claim, x.isUndecided(claim), hours > 0);
            }
            x.passHour(0, 0);
        }
        test(49, NO_CLAIM);
        claimBounds((y, claim) -> y.hoursUntilDecision(claim));
    }

    private void hoursUntilLapse() {
        test(50, "Forecasts when a policy lapses if its holder does nothing and receives nothing.");
        // A claim of 80 will be paid in hour 24, before the second premium; the forecast does not know it.
        WeatherInsurance x = Check.with("holder a 12;assessor 0;reserve 500;",
            "kite a 22 1 80 5 9;kite a 48 1 160 0 0;hours 23 0 0;claim 0;hours 1 0 0;");
        Check.same("4 are left for 5", x.hoursUntilLapse(1), 1);
        x.deposit(0, 1);
        Check.same("5 suffice for one premium, not for a second", x.hoursUntilLapse(1), 25);
        Check.until(x, 25);
        Check.same("80 received", x.balance(0), 80);
        Check.same("they suffice for the second", x.hoursUntilLapse(1), NONE);
        // The premiums of the holder's other policies are paid, as long as they are active.
        WeatherInsurance y = Check.with("holder a 20;holder b 1;assessor 0;",
            "kite a 25 1 120 0 0;kite a 72 1 120 0 0;kite b 72 1 1 0 0;");
        Check.same("12: 4 and 4, 4, and 0 for 4", y.hoursUntilLapse(1), 73);
        Check.same("the first is over by 48", y.hoursUntilLapse(0), NONE);
        Check.same("another holder", y.hoursUntilLapse(2), 25);
        leastHoursUntilLapse();
        test(50, NO_POLICY);
        policyBounds((z, policy) -> z.hoursUntilLapse(policy));
    }

    private void leastHoursUntilLapse() {
        test(50, "Returns the least number of hours after which it has lapsed, 0 if it has lapsed, or NONE if it does not lapse.");
        WeatherInsurance x = Check.with("holder a 4;assessor 0;", "kite a 60 1 40 0 0;");
        for (int hour = 0; hour < 49; hour++) {
            Check.same("at " + hour, x.hoursUntilLapse(0), 49 - hour);
            Check.same("not lapsed at " + hour, x.hasLapsed(0), false);
            x.passHour(0, 0);
        }
        Check.same("lapsed", x.hasLapsed(0), true);
        Check.same("0 hours", x.hoursUntilLapse(0), 0);
        Check.until(x, 70);
        Check.same("0 hours after its last hour", x.hoursUntilLapse(0), 0);
        WeatherInsurance y = Check.with("holder a 4;assessor 0;", "kite a 48 1 40 0 0;kite a 23 1 1 0 0;kite a 24 1 1 0 0;");
        Check.same("nothing is left", y.balance(0), 0);
        Check.same("over at 24", y.hoursUntilLapse(1), NONE);
        Check.same("over at 25", y.hoursUntilLapse(2), 25);
        Check.until(y, 24);
        Check.same("over now", y.hoursUntilLapse(1), NONE);
        WeatherInsurance z = Check.with("holder a 4;assessor 0;", "kite a 47 1 40 0 0;");
        Check.same("2 are left for the only premium", z.hoursUntilLapse(0), NONE);
    }
}
