public final class ReadmeExample {
    public static void main(String[] args) {
        WeatherInsurance office = new WeatherInsurance();

        append(office, "holder dora 500; holder eli 40; assessor 2; reserve 800;");
        System.out.println(office.loadSetup() + " holders");

        // dora insures hours 1 to 4 against wind below 20 or above 60; five hours with wind 10 and rain 4 pass.
        append(office, "kite dora 1 4 100 20 60; hours 5 10 4; claim 0;");
        System.out.println(office.runScript() + " statements executed");
        System.out.println("damage " + office.damage(0) + ", decided in " + office.hoursUntilDecision(0) + " hours");

        while (office.isUndecided(0)) {
            office.passHour(30, 0);
        }
        office.writeClaim(0);
        System.out.println(output(office) + ", balance " + office.balance(0));

        office.saveState();
        int policy = office.buyPicnic(1, office.clock(), 3, 60, 5);
        System.out.println("policy " + policy + ", daily premiums " + office.dailyPremiums(1));
        office.deposit(1, 100);
        System.out.println(office.undo() + " changes can still be undone, balance " + office.balance(1));
        office.restoreState();
        System.out.println("policies " + office.policyCount() + ", balance " + office.balance(1));

        append(office, "deposit fay 10;");
        if (office.runScript() == WeatherInsurance.NONE) {
            System.out.println("error " + office.errorCode() + " at byte " + office.errorOffset());
        }
        try {
            office.fileClaim(7);
        } catch (IndexOutOfBoundsException e) {
            System.out.println("there is no policy 7");
        }
    }

    /** Appends a text to the empty input buffer: 20 bytes a call, and then what is too many is cut off. */
    static void append(WeatherInsurance office, String text) {
        for (int i = 0; i < text.length(); i += 20) {
            office.appendInput(word(text, i), word(text, i + 4), word(text, i + 8), word(text, i + 12),
                word(text, i + 16));
        }
        office.truncateInput(text.length());
    }

    private static int word(String text, int start) {
        int word = 0;
        for (int i = start; i < start + 4; i++) {
            word = word << 8 | (i < text.length() ? text.charAt(i) : ' ');
        }
        return word;
    }

    static String output(WeatherInsurance office) {
        StringBuilder text = new StringBuilder();
        for (int i = 0; office.outputByte(i) != WeatherInsurance.NONE; i++) {
            text.append((char) office.outputByte(i));
        }
        return text.toString();
    }
}
