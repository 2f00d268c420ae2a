import java.nio.charset.StandardCharsets;
import java.util.Objects;

/** What the tests share: comparing answers, and bringing texts into an object. */
final class Check {
    private static int made = 0;
    private static int wrong = 0;

    private Check() {
    }

    static void same(String what, Object got, Object due) {
        made++;
        if (!Objects.equals(got, due)) {
            wrong++;
            System.out.println(what + ": answered " + got + ", due is " + due);
        }
    }

    static void raises(String what, Class<? extends Throwable> due, Runnable call) {
        Class<?> got = null;
        try {
            call.run();
        } catch (RuntimeException e) {
            got = e.getClass();
        }
        same(what, got, due);
    }

    static void outOfBounds(String what, Runnable call) {
        raises(what, IndexOutOfBoundsException.class, call);
    }

    static void badArgument(String what, Runnable call) {
        raises(what, IllegalArgumentException.class, call);
    }

    static void badState(String what, Runnable call) {
        raises(what, IllegalStateException.class, call);
    }

    static void noElement(String what, Runnable call) {
        raises(what, java.util.NoSuchElementException.class, call);
    }

    /** Appends a text to the input buffer, which must be empty or hold a multiple of 20 bytes. */
    static void feed(WeatherInsurance x, String text) {
        byte[] bytes = text.getBytes(StandardCharsets.ISO_8859_1);
        int length = 0;
        for (int at = 0; at < bytes.length; at += 20) {
            length = x.appendInput(word(bytes, at), word(bytes, at + 4), word(bytes, at + 8),
                word(bytes, at + 12), word(bytes, at + 16));
        }
        if (bytes.length > 0) {
            x.truncateInput(length - (20 - bytes.length % 20) % 20);
        }
    }

    private static int word(byte[] bytes, int at) {
        int word = 0;
        for (int i = at; i < at + 4; i++) {
            word = word << 8 | (i < bytes.length ? bytes[i] & 255 : ' ');
        }
        return word;
    }

    static int setup(WeatherInsurance x, String text) {
        feed(x, text);
        return x.loadSetup();
    }

    static int script(WeatherInsurance x, String text) {
        feed(x, text);
        return x.runScript();
    }

    static void pass(WeatherInsurance x, int hours, int wind, int rain) {
        for (int i = 0; i < hours; i++) {
            x.passHour(wind, rain);
        }
    }

    static String name(WeatherInsurance x, int holder) {
        StringBuilder name = new StringBuilder();
        for (int i = 0; x.nameByte(holder, i) != WeatherInsurance.NONE; i++) {
            name.append((char) x.nameByte(holder, i));
        }
        return name.toString();
    }

    static String output(WeatherInsurance x) {
        StringBuilder output = new StringBuilder();
        for (int i = 0; x.outputByte(i) != WeatherInsurance.NONE; i++) {
            output.append((char) x.outputByte(i));
        }
        return output.toString();
    }

    static String written(WeatherInsurance x, int claim) {
        int length = x.writeClaim(claim);
        String output = output(x);
        same("writeClaim: length of " + output, length, output.length());
        return output;
    }

    static void end() {
        System.out.println(made + " answers compared, " + wrong + " wrong");
        if (wrong != 0 || made == 0) {
            System.exit(1);
        }
    }
}
