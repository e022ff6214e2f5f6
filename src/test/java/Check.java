/** What the tests share: comparing answers, and loading texts into an office. */
final class Check {
    private static int wrong = 0;
    private static int done = 0;
    private static String about = "";

    private Check() {
    }

    /** What the answers that follow are about; it is printed with each wrong one. */
    static void about(String what) {
        about = what + ": ";
    }

    static void is(String what, Object got, Object want) {
        done++;
        if (!got.equals(want)) {
            wrong++;
            System.out.println(about + what + " answered " + got + ", due is " + want);
        }
    }

    static void fails(String what, Class<? extends Exception> want, Runnable call) {
        done++;
        Class<?> got = null;
        try {
            call.run();
        } catch (Exception e) {
            got = e.getClass();
        }
        if (got != want) {
            wrong++;
            System.out.println(about + what + " threw " + got + ", due is " + want);
        }
    }

    /** The next 20 bytes of a text, with spaces behind it, as one call of appendInput takes them. */
    static int[] fours(String text, int from) {
        int[] fours = new int[5];
        for (int k = 0; k < 20; k++) {
            int sign = from + k < text.length() ? text.charAt(from + k) : ' ';
            fours[k / 4] = fours[k / 4] << 8 | sign;
        }
        return fours;
    }

    /** Appends a text to the input of an office; the last call may append spaces, cut off again. */
    static void append(PlaceOffice office, String text) {
        int length = office.truncateInput(0) ? 0 : -1;
        for (int i = 0; i < text.length(); i += 20) {
            int[] fours = fours(text, i);
            length = office.appendInput(fours[0], fours[1], fours[2], fours[3], fours[4]);
        }
        if (length < 0 || !office.truncateInput(text.length())) {
            throw new IllegalStateException("the text is too long: " + text);
        }
    }

    static int load(PlaceOffice office, String text) {
        append(office, text);
        return office.loadOffice();
    }

    /** A new office with a text that must load. */
    static PlaceOffice office(String text) {
        PlaceOffice office = new PlaceOffice();
        if (load(office, text) < 0) {
            throw new IllegalStateException("error " + office.errorCode() + " at " + office.errorOffset()
                + " of " + text);
        }
        return office;
    }

    static String printed(PlaceOffice office, int school) {
        int length = office.printSchool(school);
        return output(office, length);
    }

    static String output(PlaceOffice office, int length) {
        StringBuilder s = new StringBuilder();
        for (int i = 0; i < length; i++) {
            s.append((char) office.outputByte(i));
        }
        return s.toString();
    }

    static void finish(String name) {
        System.out.println(name + ": " + done + " checks, " + wrong + " wrong");
        if (wrong != 0 || done == 0) {
            System.exit(1);
        }
    }
}
