/** The sentences of "Terms" on setups, scripts, tokens, the errors of texts and the execution of scripts. */
final class TextSentences {
    private static final int SYNTAX = WeatherInsurance.SYNTAX;
    private static final int OUT_OF_RANGE = WeatherInsurance.OUT_OF_RANGE;
    private static final int BAD_NAME = WeatherInsurance.BAD_NAME;
    private static final int TOO_MANY = WeatherInsurance.TOO_MANY;
    private static final int TOO_FEW = WeatherInsurance.TOO_FEW;
    private static final String EIGHT =
        "holder a 1;holder b 2;holder c 3;holder d 4;holder e 5;holder f 6;holder g 7;holder h 8;";
    private static final String THIRTY = "claim 0;".repeat(30);

    private final Doc doc;

    TextSentences(Doc doc) {
        this.doc = doc;
    }

    void run() {
        setupText();
        scriptText();
        tokens();
        textErrors();
        execution();
    }

    private static String padded(String text, int length, String sign) {
        return text + sign.repeat(length - text.length());
    }

    // ---- setup text ----

    private void setupText() {
        bufferHolds600();
        setupStatementsEndWithSemicolons();
        setupStatements();
        amounts();
        usualReserve();
        lastReserveCounts();
    }

    private void bufferHolds600() {
        doc.test("Setup text", "The input buffer holds at most 600 bytes.");
        WeatherInsurance x = new WeatherInsurance();
        for (int length = 20; length <= 600; length += 20) {
            Check.same("append", x.appendInput(0, 0, 0, 0, 0), length);
        }
        Check.same("a full buffer", x.appendInput(0, 0, 0, 0, 0), WeatherInsurance.NONE);
        Check.same("600 bytes", x.truncateInput(600), true);
        Check.same("not more", x.truncateInput(601), false);
        Check.same("a buffer with room for 19", x.truncateInput(581) ? x.appendInput(0, 0, 0, 0, 0) : 0, WeatherInsurance.NONE);
        Check.same("a buffer with room for 20", x.truncateInput(580) ? x.appendInput(0, 0, 0, 0, 0) : 0, 600);
        WeatherInsurance y = new WeatherInsurance();
        String end = "holder last 77;assessor 3;";
        Check.same("a setup of 600 bytes is read to its end", Check.setup(y, " ".repeat(600 - end.length()) + end), 1);
        Check.same("its holder", Check.name(y, 0), "last");
    }

    private void setupStatementsEndWithSemicolons() {
        doc.test("Setup text", "A setup consists of statements; each statement ends with a semicolon:");
        Check.badSetup("holder a 5;assessor 1", SYNTAX, 21);
        Check.badSetup("assessor 1;reserve 5", SYNTAX, 20);
        Check.badSetup("assessor 1;holder a 5", SYNTAX, 21);
        Check.badSetup("holder a 5 assessor 1;", SYNTAX, 11);
        Check.badSetup("assessor 1 holder a 5;", SYNTAX, 11);
        Check.badSetup("reserve 1 holder a 5;", SYNTAX, 10);
        Check.badSetup("holder a 5;;assessor 1;", SYNTAX, 11);
        Check.badSetup("holder a 5,assessor 1;", SYNTAX, 10);
        Check.badSetup("holder a 5:assessor 1;", SYNTAX, 10);
        Check.badSetup("holder a 5<assessor 1;", SYNTAX, 10);
    }

    private void setupStatements() {
        doc.test("Setup text", "holder NAME BALANCE | assessor STRICTNESS | reserve AMOUNT");
        WeatherInsurance x = Check.with("reserve 5;assessor 6;holder b 7;assessor 8;holder a 9;");
        Check.same("in any order", x.holderCount(), 2);
        Check.same("reserve", x.reserve(), 5);
        Check.same("assessors", x.strictness(0) * 10 + x.strictness(1), 68);
        Check.same("balances", x.balance(0) * 10 + x.balance(1), 79);
        Check.badSetup("holder;assessor 1;", SYNTAX, 6);
        Check.badSetup("holder a;assessor 1;", SYNTAX, 8);
        Check.badSetup("holder a 5 6;assessor 1;", SYNTAX, 11);
        Check.badSetup("holder 5 a;assessor 1;", SYNTAX, 7);
        Check.badSetup("assessor;holder a 5;", SYNTAX, 8);
        Check.badSetup("assessor a;holder a 5;", SYNTAX, 9);
        Check.badSetup("assessor 1 1;holder a 5;", SYNTAX, 11);
        Check.badSetup("reserve;holder a 5;", SYNTAX, 7);
        Check.badSetup("reserve a;holder a 5;", SYNTAX, 8);
        Check.badSetup("hours 1 1 1;", SYNTAX, 0);
        Check.badSetup("deposit ann 1;", SYNTAX, 0);
    }

    private void amounts() {
        doc.test("Setup text", "AMOUNT is 0 to 9999.");
        Check.same("least", Check.with("holder a 5;assessor 1;reserve 0;").reserve(), 0);
        Check.same("greatest", Check.with("holder a 5;assessor 1;reserve 9999;").reserve(), 9999);
        Check.badSetup("reserve 10000;holder a 5;assessor 1;", SYNTAX, 8);
        Check.badSetup("reserve -1;holder a 5;assessor 1;", SYNTAX, 8);
    }

    private void usualReserve() {
        doc.test("Setup text", "The reserve is 1000 if it is not given.");
        WeatherInsurance x = Check.with("holder a 5;assessor 1;reserve 7;");
        Check.same("given", x.reserve(), 7);
        Check.setup(x, "holder a 5;assessor 1;");
        Check.same("not given", x.reserve(), 1000);
        Check.setup(x, "reserve 5;oops");
        Check.setup(x, "holder a 5;assessor 1;");
        Check.same("only given in an invalid setup before", x.reserve(), 1000);
    }

    private void lastReserveCounts() {
        doc.test("Setup text", "The last reserve statement counts.");
        Check.same("two", Check.with("reserve 5;holder a 5;reserve 6;assessor 1;").reserve(), 6);
        Check.same("a smaller one", Check.with("reserve 9999;holder a 5;assessor 1;reserve 0;").reserve(), 0);
        String many = "reserve 1;".repeat(56) + "reserve 2;holder a 5;assessor 1;";
        Check.same("as many as the buffer holds", Check.with(many).reserve(), 2);
    }

    // ---- script text ----

    private void scriptText() {
        thirtyStatements();
        scriptStatements();
        counts();
        otherNumbers();
        rangesGivenAbove();
        hoursAllOrNone();
    }

    private void thirtyStatements() {
        doc.test("Script text", "A script consists of at most 30 statements; each statement ends with a semicolon:");
        Check.same("none", Check.script(new WeatherInsurance(), ""), 0);
        Check.same("none, but spaces", Check.script(new WeatherInsurance(), " \n "), 0);
        Check.same("thirty", Check.script(new WeatherInsurance(), "deposit ann 1;".repeat(30)), 30);
        Check.badScript("deposit ann 1;".repeat(31), TOO_MANY, 420);
        Check.badScript("hours 1 0 0", SYNTAX, 11);
        Check.badScript("kite ann 0 1 1 0 0", SYNTAX, 18);
        Check.badScript("picnic ann 0 1 1 0", SYNTAX, 18);
        Check.badScript("claim 0", SYNTAX, 7);
        Check.badScript("deposit ann 1", SYNTAX, 13);
        Check.badScript("deposit ann 1 deposit ann 1;", SYNTAX, 14);
        Check.badScript("deposit ann 1;;", SYNTAX, 14);
        Check.badScript("deposit ann 1:", SYNTAX, 13);
        Check.badScript(padded("deposit ann 1;".repeat(29) + "deposit ann 1", 600, " "), SYNTAX, 600);
    }

    private void scriptStatements() {
        doc.test("Script text", "hours COUNT WIND RAIN | kite NAME FIRST HOURS COVER MINWIND MAXWIND | picnic NAME FIRST HOURS "
            + "COVER LIMIT | claim POLICY | deposit NAME AMOUNT");
        WeatherInsurance x = new WeatherInsurance();
        Check.whole(x, "kite cid 1 2 3 4 5;picnic bob 0 1 40 50;hours 3 6 7;claim 1;deposit ann 8;");
        Check.same("kite", x.holderOf(0) * 1000 + x.firstHour(0) * 100 + x.insuredHours(0) * 10 + x.cover(0), 2123);
        Check.same("winds of 6 are above 5", x.damage(0), 3);
        Check.same("picnic", x.holderOf(1) * 1000 + x.firstHour(1) * 100 + x.insuredHours(1) * 10 + x.cover(1), 1050);
        Check.same("weather", x.wind(2) * 10 + x.rain(2), 67);
        Check.same("claim", x.policyOf(0), 1);
        Check.same("deposit", x.balance(0), 208);
        Check.badScript("hours;", SYNTAX, 5);
        Check.badScript("hours 1 1;", SYNTAX, 9);
        Check.badScript("hours 1 1 1 1;", SYNTAX, 12);
        Check.badScript("kite 0 1 1 0 0 0;", SYNTAX, 5);
        Check.badScript("kite ann 0 1 1 0;", SYNTAX, 16);
        Check.badScript("kite ann 0 1 1 0 0 0;", SYNTAX, 19);
        Check.badScript("picnic ann 0 1 1;", SYNTAX, 16);
        Check.badScript("picnic ann 0 1 1 0 0;", SYNTAX, 19);
        Check.badScript("claim;", SYNTAX, 5);
        Check.badScript("claim 0 0;", SYNTAX, 8);
        Check.badScript("claim ann;", SYNTAX, 6);
        Check.badScript("deposit 1;", SYNTAX, 8);
        Check.badScript("deposit ann;", SYNTAX, 11);
        Check.badScript("deposit ann 1 1;", SYNTAX, 14);
        Check.badScript("holder ann 1;", SYNTAX, 0);
    }

    private void counts() {
        doc.test("Script text", "COUNT is 1 to 48; the statement lets this many hours with this weather pass.");
        WeatherInsurance x = new WeatherInsurance();
        Check.whole(x, "hours 1 150 50;");
        Check.same("one hour", x.clock(), 1);
        Check.whole(x, "hours 48 0 0;");
        Check.same("48 hours more", x.clock(), 49);
        Check.same("their weather", x.wind(0) + x.rain(0) + x.wind(1) + x.rain(1) + x.wind(48) + x.rain(48), 200);
        Check.badScript("hours 0 0 0;", OUT_OF_RANGE, 6);
        Check.badScript("hours 49 0 0;", OUT_OF_RANGE, 6);
        Check.badScript("hours 9999 0 0;", OUT_OF_RANGE, 6);
        Check.badScript("hours -1 0 0;", SYNTAX, 6);
    }

    private void otherNumbers() {
        doc.test("Script text", "FIRST is 0 to 1000, POLICY is 0 to 19, and AMOUNT is 1 to 999.");
        WeatherInsurance x = new WeatherInsurance();
        Check.whole(x, "kite ann 0 1 1 0 0;kite ann 1000 1 1 0 0;picnic ann 0 1 1 0;picnic ann 1000 1 1 0;");
        Check.same("the first hours", x.firstHour(0) + x.firstHour(1) + x.firstHour(2) + x.firstHour(3), 2000);
        Check.badScript("kite ann 1001 1 1 0 0;", OUT_OF_RANGE, 9);
        Check.badScript("picnic ann 1001 1 1 0;", OUT_OF_RANGE, 11);
        Check.whole(x, "hours 1 1 1;claim 0;");
        Check.same("policy 19 is in the range, but not there", Check.script(x, "claim 19;"), 0);
        Check.same("no error", x.errorCode(), WeatherInsurance.NO_ERROR);
        Check.badScript("claim 20;", OUT_OF_RANGE, 6);
        Check.whole(x, "deposit bob 1;deposit bob 999;");
        Check.same("balance", x.balance(1), 1060);
        Check.badScript("deposit bob 0;", OUT_OF_RANGE, 12);
        Check.badScript("deposit bob 1000;", OUT_OF_RANGE, 12);
        WeatherInsurance y = new WeatherInsurance();
        Check.whole(y, "kite cid 0 1 1 0 0;".repeat(20));
        Check.whole(y, "hours 1 0 0;claim 19;");
        Check.same("the claim of policy 19", y.policyOf(0), 19);
    }

    private void rangesGivenAbove() {
        doc.test("Script text", "The other ranges are given above.");
        WeatherInsurance x = Check.with("holder ann 9999;assessor 0;");
        Check.whole(x, "hours 1 0 0;hours 1 150 50;kite ann 5 1 1 0 0;kite ann 5 24 500 150 150;");
        Check.whole(x, "picnic ann 5 1 1 0;picnic ann 5 24 500 50;");
        Check.badScript("hours 1 151 0;", OUT_OF_RANGE, 8);
        Check.badScript("hours 1 0 51;", OUT_OF_RANGE, 10);
        Check.badScript("kite ann 0 0 1 0 0;", OUT_OF_RANGE, 11);
        Check.badScript("kite ann 0 25 1 0 0;", OUT_OF_RANGE, 11);
        Check.badScript("kite ann 0 1 0 0 0;", OUT_OF_RANGE, 13);
        Check.badScript("kite ann 0 1 501 0 0;", OUT_OF_RANGE, 13);
        Check.badScript("kite ann 0 1 1 151 151;", OUT_OF_RANGE, 15);
        Check.badScript("kite ann 0 1 1 0 151;", OUT_OF_RANGE, 17);
        Check.badScript("picnic ann 0 0 1 0;", OUT_OF_RANGE, 13);
        Check.badScript("picnic ann 0 25 1 0;", OUT_OF_RANGE, 13);
        Check.badScript("picnic ann 0 1 0 0;", OUT_OF_RANGE, 15);
        Check.badScript("picnic ann 0 1 501 0;", OUT_OF_RANGE, 15);
        Check.badScript("picnic ann 0 1 1 51;", OUT_OF_RANGE, 17);
    }

    private void hoursAllOrNone() {
        doc.test("Script text", "An hours statement is executed only if all of its hours can pass.");
        WeatherInsurance x = new WeatherInsurance();
        Check.until(x, 953);
        Check.same("48 hours of 47", Check.script(x, "hours 48 0 0;"), 0);
        Check.same("none has passed", x.clock(), 953);
        Check.whole(x, "hours 47 0 0;");
        Check.same("47 of 47", x.clock(), 1000);
        Check.same("none is left", Check.script(x, "hours 1 0 0;"), 0);
        x.undo();
        x.undo();
        Check.whole(x, "hours 46 0 0;");
        Check.same("2 hours of 1", Check.script(x, "hours 2 0 0;hours 1 0 0;"), 0);
        Check.same("the statement after it is not executed", x.clock(), 999);
    }

    // ---- tokens ----

    private void tokens() {
        kindsOfTokens();
        words();
        numbers();
        spaces();
        necessarySpaces();
    }

    private void kindsOfTokens() {
        doc.test("Tokens", "A token is a word, a number or a semicolon.");
        for (int sign = 0; sign < 256; sign++) {
            boolean starts = sign >= 'a' && sign <= 'z' || sign >= '0' && sign <= '9' || sign == ';' || sign == ' ' || sign == '\n';
            if (!starts) {
                Check.badScript((char) sign + "", SYNTAX, 0);
                Check.badSetup("holder a 5;assessor 1;" + (char) sign, SYNTAX, 22);
                Check.badScript("hours" + (char) sign + " 1 1 1;", SYNTAX, 5);
                Check.badScript("hours 1" + (char) sign + " 1 1;", SYNTAX, 7);
                Check.badScript("deposit " + (char) sign + " 1;", SYNTAX, 8);
            }
        }
        Check.badScript(";", SYNTAX, 0);
        Check.badScript("0", SYNTAX, 0);
        Check.badScript("a", SYNTAX, 0);
    }

    private void words() {
        doc.test("Tokens", "A word is a maximal run of lower-case letters and has at most 8 of them.");
        Check.same("eight letters: assessor", Check.with("holder az 5;assessor 1;").assessorCount(), 1);
        Check.badSetup("assessors 1;", SYNTAX, 0);
        Check.badSetup("assesso 1;", SYNTAX, 0);
        Check.badSetup("holderab 5;", SYNTAX, 0);
        Check.badSetup("holder abcdefghi 5;", SYNTAX, 7);
        Check.badSetup("  " + "a".repeat(598), SYNTAX, 2);
        Check.badSetup("holder a 5;assessor 1;" + "z".repeat(9), SYNTAX, 22);
    }

    private void numbers() {
        doc.test("Tokens", "A number is a maximal run of digits and has at most 4 of them.");
        WeatherInsurance x = Check.with("holder a 0000;holder b 9999;holder c 0012;assessor 0009;reserve 0000;");
        Check.same("four zeros", x.balance(0), 0);
        Check.same("four nines", x.balance(1), 9999);
        Check.same("leading zeros", x.balance(2), 12);
        Check.same("a strictness of four digits", x.strictness(0), 9);
        Check.badSetup("holder a 00000;", SYNTAX, 9);
        Check.badSetup("holder a 10000;", SYNTAX, 9);
        Check.badSetup("holder a 5;assessor 00001;", SYNTAX, 20);
        Check.badSetup("reserve 00001;", SYNTAX, 8);
        Check.badScript("hours 00001 1 1;", SYNTAX, 6);
        Check.badScript("hours " + "1".repeat(594), SYNTAX, 6);
        Check.badScript("hours 4294967297 1 1;", SYNTAX, 6);
    }

    private void spaces() {
        doc.test("Tokens", "Spaces (byte 32) and line feeds (byte 10) may stand before, between and after tokens.");
        WeatherInsurance x = Check.with(" \n\n holder \n a \n 5 \n ; \n assessor \n\n 1 \n ; \n ");
        Check.same("a setup", x.holderCount(), 1);
        Check.whole(x, "\n hours\n2  1\n \n1\n; \n deposit  a\n\n7 ; ");
        Check.same("a script", x.clock(), 2);
        Check.badSetup("\tholder a 5;assessor 1;", SYNTAX, 0);
        Check.badSetup("holder a 5;\r\nassessor 1;", SYNTAX, 11);
        Check.badSetup("holder a 5;assessor 1;" + (char) 160, SYNTAX, 22);
        Check.badSetup("holder a 5;assessor 1;" + (char) 0, SYNTAX, 22);
        Check.badSetup("hol der a 5;assessor 1;", SYNTAX, 0);
        Check.badSetup("holder a 1 2;assessor 1;", SYNTAX, 11);
    }

    private void necessarySpaces() {
        doc.test("Tokens", "They are necessary only between two words and between two numbers.");
        WeatherInsurance x = Check.with("holder a5;assessor1;reserve7;holder b6;");
        Check.same("none but between words", x.balance(0) + x.balance(1) + x.reserve(), 18);
        Check.whole(x, "kite a0 1 1 0 0;hours3 4 5;claim0;");
        Check.same("none between a word and a number", x.clock(), 3);
        Check.badSetup("holdera5;assessor1;", SYNTAX, 0);
        Check.badScript("depositann 5;", SYNTAX, 0);
        Check.badScript("hours1 23;", SYNTAX, 9);
        Check.badScript("hours123;", OUT_OF_RANGE, 5);
        Check.badScript("hours 1 1 1hours 1 1 1;", SYNTAX, 11);
    }

    // ---- text errors ----

    private void textErrors() {
        firstErrorIsReported();
        errorAtTheEnd();
        smallestCode();
        syntax();
        outOfRange();
        badName();
        tooMany();
        tooFew();
    }

    private void firstErrorIsReported() {
        doc.test("Text errors", "A text is read from left to right, and the first error is reported with the offset of the first "
            + "byte of its token.");
        Check.badSetup("holder a 5;assessor 10;oops", OUT_OF_RANGE, 20);
        Check.badSetup("holder a 5;holder a 5;assessor 10;", BAD_NAME, 18);
        Check.badSetup("assessor   0099 ;!", OUT_OF_RANGE, 11);
        Check.badScript("hours 49 151 51;", OUT_OF_RANGE, 6);
        Check.badScript("hours 1 151 51;", OUT_OF_RANGE, 8);
        Check.badScript("claim 20;deposit dan 0;", OUT_OF_RANGE, 6);
        Check.badScript("deposit dan 0;claim 20;", BAD_NAME, 8);
        Check.badScript("deposit ann 5;deposit \n  dan 0;", BAD_NAME, 25);
        Check.badSetup(EIGHT + "holder 5;assessor 10;", TOO_MANY, 88);
        Check.badScript(THIRTY + "claim 99;!", TOO_MANY, 240);
        Check.badSetup("holder abcdefghijkl 5;", SYNTAX, 7);
    }

    private void errorAtTheEnd() {
        doc.test("Text errors", "The offset of an error at the end of the text is the length of the text.");
        Check.badSetup("", TOO_FEW, 0);
        Check.badSetup("holder a 5;", TOO_FEW, 11);
        Check.badSetup("holder a 5; \n ", TOO_FEW, 14);
        Check.badSetup(padded("holder a 5;", 600, " "), TOO_FEW, 600);
        Check.badSetup("holder a", SYNTAX, 8);
        Check.badSetup("holder a  ", SYNTAX, 10);
        Check.badSetup(padded("holder a", 600, "\n"), SYNTAX, 600);
        Check.badScript("claim", SYNTAX, 5);
        Check.badScript("claim 0 \n", SYNTAX, 9);
        Check.badScript(padded("claim 0", 600, " "), SYNTAX, 600);
    }

    private void smallestCode() {
        doc.test("Text errors", "If several errors apply to one token, the error with the smallest code is reported.");
        // SYNTAX before the others
        Check.badSetup("holder a 5", SYNTAX, 10);
        Check.badSetup("assessor 11111;", SYNTAX, 9);
        Check.badScript("deposit abcdefg 5;", SYNTAX, 8);
        Check.badScript("deposit abcdefghi 5;", SYNTAX, 8);
        Check.badScript(THIRTY + "claims 0;", SYNTAX, 240);
        Check.badScript(THIRTY + "0", SYNTAX, 240);
        Check.badScript(THIRTY + ";", SYNTAX, 240);
        Check.badSetup(EIGHT + "holders i 5;", SYNTAX, 88);
        // a number that is too great in two ways
        Check.badScript("kite ann 0 1 1 150 151;", OUT_OF_RANGE, 19);
        Check.badScript("kite ann 0 1 1 160 5;", OUT_OF_RANGE, 15);
    }

    private void syntax() {
        doc.test("Text errors", "SYNTAX: the token cannot stand at this place, is too long, or is a byte that starts no token, or "
            + "the text ends within a statement; a name of more than 6 letters is a syntax error, too.");
        Check.badSetup("holder holder holder;", SYNTAX, 14);
        for (String text : new String[] {"holder a 5;", "assessor 5;", "reserve 5;"}) {
            wrongLetters(text, text.indexOf(' '), true);
        }
        for (String text : new String[] {"hours 1 1 1;", "kite ann 0 1 1 0 0;", "picnic ann 0 1 1 0;", "claim 0;", "deposit ann 1;"}) {
            wrongLetters(text, text.indexOf(' '), false);
        }
        Check.badSetup("5 holder a;", SYNTAX, 0);
        Check.badScript("kite ann ann 1 1 0 0;", SYNTAX, 9);
        Check.badScript("hours hours 1 1;", SYNTAX, 6);
        Check.badSetup("holder abcdefghi 5;", SYNTAX, 7);
        Check.badSetup("holder a 12345;", SYNTAX, 9);
        Check.badSetup("holder a " + (char) 255 + ";", SYNTAX, 9);
        String statement = "kite ann 0 1 1 0 0";
        for (int length = 1; length <= statement.length(); length++) {
            String part = statement.substring(0, length);
            // a part of the first word, or of the name, is a wrong word
            boolean inFirstWord = length < 4;
            boolean inName = length == 6 || length == 7;
            Check.badScript(part, inName ? BAD_NAME : SYNTAX, inFirstWord ? 0 : inName ? 5 : length);
        }
        Check.badSetup("holder abcdefg 5;", SYNTAX, 7);
        Check.badSetup("holder abcdefgh 5;", SYNTAX, 7);
        Check.badScript("deposit anncidb 5;", SYNTAX, 8);
        Check.same("six letters are a name", Check.with("holder abcdef 5;assessor 0;").holderCount(), 1);
    }

    /** Puts another letter into the first word, at each of its places. */
    private static void wrongLetters(String text, int length, boolean isSetup) {
        for (int place = 0; place < length; place++) {
            String wrong = text.substring(0, place) + 'x' + text.substring(place + 1);
            if (isSetup) {
                Check.badSetup(wrong, SYNTAX, 0);
            } else {
                Check.badScript(wrong, SYNTAX, 0);
            }
        }
    }

    private void outOfRange() {
        doc.test("Text errors", "OUT_OF_RANGE: a number is outside its range, or MAXWIND is less than MINWIND.");
        Check.badScript("kite ann 0 1 1 1 0;", OUT_OF_RANGE, 17);
        Check.badScript("kite ann 0 1 1 150 149;", OUT_OF_RANGE, 19);
        Check.badScript("kite ann 0 1 1 0 151;", OUT_OF_RANGE, 17);
        Check.badScript("kite ann 0 1 1 0 9999;", OUT_OF_RANGE, 17);
        Check.badSetup("assessor 10;", OUT_OF_RANGE, 9);
        Check.badScript("deposit ann 1000", OUT_OF_RANGE, 12);
        WeatherInsurance x = new WeatherInsurance();
        Check.whole(x, "kite ann 0 1 1 0 0;kite ann 0 1 1 75 75;kite ann 0 1 1 150 150;kite ann 0 1 1 0 150;");
        Check.same("MAXWIND may be MINWIND", x.policyCount(), 4);
    }

    private void badName() {
        doc.test("Text errors", "BAD_NAME: the name in a holder statement belongs to an earlier holder, or the name in a script "
            + "belongs to no holder.");
        Check.badSetup("holder a 5;holder a 5;", BAD_NAME, 18);
        Check.badSetup("holder a 5;holder b 5;holder a", BAD_NAME, 29);
        Check.badSetup("holder a 5;holder b 5;holder b", BAD_NAME, 29);
        Check.badSetup("holder b 5;holder abcdef 5;holder abcdef", BAD_NAME, 34);
        for (String name : new String[] {"an", "anna", "a", "bobann", "cid".substring(1), "dan", "kite"}) {
            Check.badScript("kite " + name + " 0 1 1 0 0;", BAD_NAME, 5);
            Check.badScript("picnic " + name + " 0 1 1 0;", BAD_NAME, 7);
            Check.badScript("deposit " + name + " 1;", BAD_NAME, 8);
        }
        WeatherInsurance x = Check.with("holder kite 99;holder claim 99;assessor 0;");
        Check.whole(x, "kite kite 0 1 1 0 0;deposit claim 1;");
        Check.badScript(Check.with("holder kite 99;assessor 0;"), "deposit ann 1;", BAD_NAME, 8);
        // the names of an invalid setup are forgotten, too
        Check.setup(x, "holder zoe 5;oops");
        Check.same("a name of an invalid setup", Check.script(x, "deposit zoe 1;"), WeatherInsurance.NONE);
        Check.same("belongs to no holder", x.errorCode(), BAD_NAME);
        Check.same("the valid setup's name still does", Check.script(x, "deposit claim 1;"), 1);
    }

    private void tooMany() {
        doc.test("Text errors", "TOO_MANY: the first word of a ninth holder or a fourth assessor of a setup, or of the 31st "
            + "statement of a script.");
        Check.badSetup(EIGHT + "holder", TOO_MANY, 88);
        Check.badSetup(EIGHT + "assessor 1; holder a 1;", TOO_MANY, 100);
        Check.badSetup(EIGHT, TOO_FEW, 88);
        Check.same("eight holders and three assessors", Check.with(EIGHT + "assessor 1;".repeat(3)).holderCount(), 8);
        Check.badSetup("assessor 1;".repeat(3) + "assessor", TOO_MANY, 33);
        Check.badSetup("assessor 1;".repeat(3) + EIGHT + "reserve 5;assessor x", TOO_MANY, 131);
        Check.badScript(THIRTY + "claim", TOO_MANY, 240);
        Check.badScript(THIRTY + "\n hours 0 0 0;", TOO_MANY, 242);
        Check.badScript(THIRTY + "kite", TOO_MANY, 240);
        Check.badScript(THIRTY + "picnic", TOO_MANY, 240);
        Check.badScript(THIRTY + "deposit dan", TOO_MANY, 240);
        Check.badScript("claim 0;".repeat(29) + "claim 0 claim 0;", SYNTAX, 240);
        Check.same("thirty are not too many", Check.script(new WeatherInsurance(), THIRTY + " "), 0);
    }

    private void tooFew() {
        doc.test("Text errors", "TOO_FEW: the end of a setup without a holder or without an assessor.");
        Check.badSetup("", TOO_FEW, 0);
        Check.badSetup(" ", TOO_FEW, 1);
        Check.badSetup("reserve 5;", TOO_FEW, 10);
        Check.badSetup("holder a 5;", TOO_FEW, 11);
        Check.badSetup("assessor 1;", TOO_FEW, 11);
        Check.badSetup(EIGHT + "reserve 5;", TOO_FEW, 98);
        Check.badSetup("assessor 1;".repeat(3) + "reserve 5;", TOO_FEW, 43);
        Check.same("one of each is enough", Check.with("holder a 5;assessor 1;").holderCount(), 1);
    }

    // ---- execution of scripts ----

    private void execution() {
        executedAsMethods();
        executionEnds();
        executedBeforeRemains();
    }

    private void executedAsMethods() {
        doc.test("Execution of scripts", "The statements of a script are executed one after the other as the methods passHour, "
            + "buyKite, buyPicnic, fileClaim and deposit.");
        WeatherInsurance x = new WeatherInsurance();
        Check.whole(x, "kite ann 0 4 60 5 9;picnic bob 30 3 300 1;hours 2 4 7;hours 2 9 7;claim 0;deposit cid 999;hours 25 8 1;");
        WeatherInsurance y = new WeatherInsurance();
        y.buyKite(0, 0, 4, 60, 5, 9);
        y.buyPicnic(1, 30, 3, 300, 1);
        Check.pass(y, 2, 4, 7);
        Check.pass(y, 2, 9, 7);
        y.fileClaim(0);
        y.deposit(2, 999);
        Check.pass(y, 25, 8, 1);
        Check.same("the same is seen", Check.seen(x), Check.seen(y));
        Check.same("a policy has lapsed in both", x.hasLapsed(1), true);
        Check.same("a claim for two hours of four was paid in both", x.isPaid(0) ? x.grantedAmount(0) : 0, 30);
    }

    private void executionEnds() {
        doc.test("Execution of scripts", "Execution ends before the first statement whose method would throw an exception.");
        WeatherInsurance full = new WeatherInsurance();
        Check.whole(full, "picnic cid 0 1 1 0;".repeat(20));
        stops(full, "kite cid 0 1 1 0 0;");
        stops(full, "picnic cid 0 1 1 0;");
        WeatherInsurance x = new WeatherInsurance();
        Check.whole(x, "kite ann 0 1 9 0 0;kite ann 0 1 9 0 0;kite ann 1 9 9 0 0;hours 1 0 0;claim 0;");
        stops(x, "kite ann 0 1 1 0 0;");
        stops(x, "picnic ann 0 1 1 0;");
        stops(x, "kite bob 1 24 100 0 0;");
        stops(x, "picnic bob 1 24 50 0;");
        stops(x, "picnic bob 1 24 300 50;");
        Check.whole(x, "picnic bob 1 24 295 50;");
        Check.same("a premium of 60 of 60", x.balance(1), 0);
        x.undo();
        stops(x, "claim 0;");
        stops(x, "claim 1;");
        stops(x, "claim 2;");
        stops(x, "claim 3;");
        stops(x, "claim 19;");
        Check.until(x, 1000);
        stops(x, "hours 1 0 0;");
        stops(x, "kite ann 999 1 1 0 0;");
        Check.whole(x, "kite ann 1000 1 1 0 0;");
    }

    /** A statement that cannot be executed, between two deposits. */
    private static void stops(WeatherInsurance x, String statement) {
        int balance = x.balance(2);
        String before = Check.seen(x);
        Check.same("deposit and " + statement, Check.script(x, "deposit cid 5;" + statement + "deposit cid 7;"), 1);
        Check.same("only the first deposit of " + statement, x.balance(2), balance + 5);
        x.undo();
        Check.same("nothing else changed by " + statement, Check.seen(x), before);
    }

    private void executedBeforeRemains() {
        doc.test("Execution of scripts", "The statements before it remain executed.");
        WeatherInsurance x = new WeatherInsurance();
        Check.same("the fifth is refused", Check.script(x,
            "kite ann 0 1 40 5 9;hours 1 0 0;claim 0;deposit bob 40;claim 0;hours 9 9 9;"), 4);
        Check.same("clock", x.clock(), 1);
        Check.same("claims", x.claimCount(), 1);
        Check.same("policies", x.policyCount(), 1);
        Check.same("balance", x.balance(1), 100);
        Check.same("no error", x.errorCode(), WeatherInsurance.NO_ERROR);
        Check.same("all of it is one change", x.undo(), 0);
        Check.same("policies", x.policyCount(), 0);
    }
}
