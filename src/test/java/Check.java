import java.nio.charset.StandardCharsets;
import java.util.Objects;

/** What the tests share: comparing answers, and bringing texts into an object. */
final class Check {
    private static int made = 0;
    private static int wrong = 0;
    private static String about = "";

    private Check() {
    }

    /** What the next answers are about is told before each wrong one. */
    static void about(String sentence) {
        about = sentence.isEmpty() ? "" : "[" + sentence + "] ";
    }

    static int made() {
        return made;
    }

    static void same(String what, Object got, Object due) {
        made++;
        if (!Objects.equals(got, due)) {
            wrong++;
            System.out.println(about + what + ": answered " + got + ", due is " + due);
        }
    }

    static void raises(String what, Class<? extends Throwable> due, Runnable call) {
        Class<?> got = null;
        try {
            call.run();
        } catch (RuntimeException e) {
            got = e.getClass();
        }
        same(what, got, due);
    }

    static void outOfBounds(String what, Runnable call) {
        raises(what, IndexOutOfBoundsException.class, call);
    }

    static void badArgument(String what, Runnable call) {
        raises(what, IllegalArgumentException.class, call);
    }

    static void badState(String what, Runnable call) {
        raises(what, IllegalStateException.class, call);
    }

    static void noElement(String what, Runnable call) {
        raises(what, java.util.NoSuchElementException.class, call);
    }

    /** Appends a text to the input buffer, which must be empty or hold a multiple of 20 bytes. */
    static void feed(WeatherInsurance x, String text) {
        byte[] bytes = text.getBytes(StandardCharsets.ISO_8859_1);
        int length = 0;
        for (int at = 0; at < bytes.length; at += 20) {
            length = x.appendInput(word(bytes, at), word(bytes, at + 4), word(bytes, at + 8),
                word(bytes, at + 12), word(bytes, at + 16));
        }
        if (bytes.length > 0) {
            x.truncateInput(length - (20 - bytes.length % 20) % 20);
        }
    }

    private static int word(byte[] bytes, int at) {
        int word = 0;
        for (int i = at; i < at + 4; i++) {
            word = word << 8 | (i < bytes.length ? bytes[i] & 255 : ' ');
        }
        return word;
    }

    static int setup(WeatherInsurance x, String text) {
        feed(x, text);
        return x.loadSetup();
    }

    static int script(WeatherInsurance x, String text) {
        feed(x, text);
        return x.runScript();
    }

    /** A new object with a setup that must be valid. */
    static WeatherInsurance with(String setup) {
        WeatherInsurance x = new WeatherInsurance();
        same("a valid setup <" + setup + ">", setup(x, setup) > 0, true);
        return x;
    }

    /** A new object with a setup that must be valid, and a script that must be executed to its end. */
    static WeatherInsurance with(String setup, String script) {
        WeatherInsurance x = with(setup);
        whole(x, script);
        return x;
    }

    /** Executes a script that must be executed to its end. */
    static void whole(WeatherInsurance x, String script) {
        int statements = script.length() - script.replace(";", "").length();
        same("all of <" + script + ">", script(x, script), statements);
    }

    static void badSetup(String text, int code, int offset) {
        WeatherInsurance x = new WeatherInsurance();
        String before = seen(x);
        same("setup <" + text + ">", setup(x, text), WeatherInsurance.NONE);
        badText("setup <" + text + ">", x, before, code, offset);
    }

    static void badScript(String text, int code, int offset) {
        badScript(new WeatherInsurance(), text, code, offset);
    }

    /** Runs a script that must be invalid on an object without changes. */
    static void badScript(WeatherInsurance x, String text, int code, int offset) {
        String before = seen(x);
        same("script <" + text + ">", script(x, text), WeatherInsurance.NONE);
        badText("script <" + text + ">", x, before, code, offset);
    }

    private static void badText(String text, WeatherInsurance x, String before, int code, int offset) {
        same("code of " + text, x.errorCode(), code);
        same("offset of " + text, x.errorOffset(), offset);
        same("buffer after " + text, x.truncateInput(1), false);
        same("all that is seen after " + text, seen(x), before);
        noElement("no change by " + text, x::undo);
    }

    /** Lets calm hours pass until the clock is there; by scripts, since 1000 calls of passHour are too many. */
    static void until(WeatherInsurance x, int clock) {
        for (int left = clock - x.clock(); left > 0; left -= 48) {
            whole(x, "hours " + Math.min(48, left) + " 0 0;");
        }
    }

    static void pass(WeatherInsurance x, int hours, int wind, int rain) {
        for (int i = 0; i < hours; i++) {
            x.passHour(wind, rain);
        }
    }

    static String name(WeatherInsurance x, int holder) {
        StringBuilder name = new StringBuilder();
        for (int i = 0; x.nameByte(holder, i) != WeatherInsurance.NONE; i++) {
            name.append((char) x.nameByte(holder, i));
        }
        return name.toString();
    }

    static String output(WeatherInsurance x) {
        StringBuilder output = new StringBuilder();
        for (int i = 0; x.outputByte(i) != WeatherInsurance.NONE; i++) {
            output.append((char) x.outputByte(i));
        }
        return output.toString();
    }

    static String written(WeatherInsurance x, int claim) {
        int length = x.writeClaim(claim);
        String output = output(x);
        same("writeClaim: length of " + output, length, output.length());
        return output;
    }

    /** All that can be seen of an object but the error of its latest text: sums, holders, weather, policies, claims. */
    static String seen(WeatherInsurance x) {
        StringBuilder s = new StringBuilder();
        s.append(output(x)).append('\n');
        s.append(x.clock()).append(' ').append(x.reserve()).append(' ').append(x.totalPremiums()).append(' ')
            .append(x.totalPaid()).append(' ').append(x.totalDeposits()).append(' ').append(x.lapsedCount()).append(' ')
            .append(x.luckiestHolder()).append(' ').append(x.nextPayment()).append(' ').append(x.openPayments()).append(' ')
            .append(x.nextAssessor()).append(' ').append(x.lossRatio()).append(' ').append(x.grantedPart()).append(' ')
            .append(x.isConsistent()).append('\n');
        for (int h = 0; h < x.holderCount(); h++) {
            s.append(name(x, h)).append(' ').append(x.balance(h)).append(' ').append(x.dailyPremiums(h)).append('\n');
        }
        for (int a = 0; a < x.assessorCount(); a++) {
            s.append(x.strictness(a)).append(' ').append(x.workload(a)).append('\n');
        }
        for (int h = Math.max(0, x.clock() - 60); h < x.clock(); h++) {
            s.append(x.wind(h)).append('/').append(x.rain(h)).append(' ');
        }
        for (int p = 0; p < x.policyCount(); p++) {
            s.append('\n').append(x.isKite(p)).append(' ').append(x.holderOf(p)).append(' ').append(x.firstHour(p)).append(' ')
                .append(x.insuredHours(p)).append(' ').append(x.cover(p)).append(' ').append(x.premium(p)).append(' ')
                .append(x.isActive(p)).append(' ').append(x.hasLapsed(p)).append(' ').append(x.damage(p)).append(' ')
                .append(x.claimObstacle(p)).append(' ').append(x.hoursUntilLapse(p));
        }
        for (int c = 0; c < x.claimCount(); c++) {
            s.append('\n').append(x.policyOf(c)).append(' ').append(x.assessorOf(c)).append(' ').append(x.isUndecided(c))
                .append(' ').append(x.isDenied(c)).append(' ').append(x.isPaid(c)).append(' ').append(x.grantedAmount(c))
                .append(' ').append(x.hoursUntilDecision(c));
        }
        return s.toString();
    }

    static void end() {
        System.out.println(made + " answers compared, " + wrong + " wrong");
        if (wrong != 0 || made == 0) {
            System.exit(1);
        }
    }
}
