/** The sentences of the promises 1 to 31 (the input, what is told, lists, claims and changes), with their edges. */
final class SentencesOfPromises {
    private static final Class<? extends Exception> INDEX = SentencesOfTerms.INDEX;
    private static final Class<? extends Exception> ARGUMENT = SentencesOfTerms.ARGUMENT;
    private static final Class<? extends Exception> STATE = SentencesOfTerms.STATE;
    private static final Class<? extends Exception> ELEMENT = SentencesOfTerms.ELEMENT;
    static final String NO_CHILD = "Throws `IndexOutOfBoundsException` if there is no such child";
    static final String NO_SCHOOL = "Throws `IndexOutOfBoundsException` if there is no such school";
    static final String NEITHER = "Throws `IndexOutOfBoundsException` if there is no such child or school";
    static final String A_CHANGE = "This is a change.";

    /** Schools a, b and c with a place each at x 0, 10 and 20; 0 gets a, 3 gets b, 2 gets c, 1 gets none. */
    static final String ROW = "appeals 1;school a 1 0 0;school b 1 10 0;school c 1 20 0;child 1 0 prefers a b c;"
        + "child 2 0 prefers a b c;child 3 0 prefers a b c;child 4 0 prefers a b c;";

    /** 0 gets a, 1 gets b, its second preference. */
    private static final String PAIR = "school a 1 0 0;school b 1 9 0;child 1 0 prefers a;child 2 0 prefers a b;";

    private SentencesOfPromises() {
    }

    static PlaceOffice allocated(String text) {
        return SentencesOfTerms.allocated(text);
    }

    static String places(PlaceOffice o) {
        return SentencesOfTerms.places(o);
    }

    /**
     * In the kinds a C stands for the number of a child, an S for that of a school, and any other sign for an argument
     * that is 1: none of the numbers may be beside those that there are, and 0 and the last one are there.
     */
    static void numbersOf(String name, String kinds) {
        PlaceOffice none = new PlaceOffice();
        // 3 schools and 4 children, in the state allocated.
        for (int at = 0; at < kinds.length(); at++) {
            char kind = kinds.charAt(at);
            if (kind != 'C' && kind != 'S') {
                continue;
            }
            int there = kind == 'C' ? 4 : 3;
            for (int number : new int[] {-1, there, there + 1, 8, 40, 64, 1 << 31, Integer.MAX_VALUE, -there}) {
                Object[] args = arguments(kinds, 1);
                args[at] = number;
                Check.is(name + ", " + kind + " " + number, Whole.answer(allocated(ROW), name, args), INDEX);
                Check.is(name + " of nothing", Whole.answer(none, name, args), INDEX);
            }
            for (int number : new int[] {0, there - 1}) {
                Object[] args = arguments(kinds, 1);
                args[at] = number;
                Check.is(name + ", " + kind + " " + number, Whole.answer(allocated(ROW), name, args) == INDEX, false);
            }
        }
    }

    private static Object[] arguments(String kinds, int number) {
        Object[] args = new Object[kinds.length()];
        java.util.Arrays.fill(args, number);
        return args;
    }

    /** Arguments of a call that are out of range at one place, and the exception that is due. */
    private static void out(String name, Class<?> due, int[] wrong, Object[] args, int at) {
        for (int number : wrong) {
            Object[] changed = args.clone();
            changed[at] = number;
            Check.is(name + ", argument " + at + " is " + number, Whole.answer(allocated(ROW), name, changed), due);
        }
    }

    private static int[] beside(int least, int most) {
        return new int[] {least - 1, most + 1, Integer.MIN_VALUE, Integer.MAX_VALUE, most + 256, least - 256};
    }

    /** A change can be undone, and then all is as it was before; the run before it must leave fewer than ten changes. */
    static void isAChange(String key, java.util.function.Consumer<PlaceOffice> change) {
        Doc.says(key, A_CHANGE);
        undoes(change);
    }

    private static void undoes(java.util.function.Consumer<PlaceOffice> change) {
        PlaceOffice o = new PlaceOffice();
        SentencesOfTerms.lively(o);
        change.accept(o);
        Check.is("changes that can be undone", o.count(11), 9);
        Whole.same("undone", Whole.ALL, SentencesOfTerms::lively, p -> {
            SentencesOfTerms.lively(p);
            change.accept(p);
            Check.is("undo", p.undo(), 8);
        });
    }

    private static void p1() {
        Doc.says("P1", "Creates an office as if an empty text was loaded, with an empty input buffer.");
        Whole.same("a new object", Whole.ALL, o -> Check.load(o, ""), o -> { });
        PlaceOffice o = new PlaceOffice();
        Check.is("empty buffer", o.truncateInput(0) + " " + o.truncateInput(1), "true false");
        Check.is("no output", o.outputByte(0), -1);
        Check.is("nothing to undo", o.undo() + " " + o.count(11), "-1 0");
        Check.fails("nothing saved", STATE, o::restoreState);
        Check.fails("no school", INDEX, () -> o.school(0, 0));
        PlaceOffice used = Check.office(ROW);
        used.allocate();
        Check.is("objects have nothing in common", new PlaceOffice().count(0) + " " + used.count(0), "0 3");
    }

    private static void p2() {
        Doc.says("P2", "Appends 20 bytes to the input buffer: the four bytes of each parameter, the most significant byte "
            + "first.", "`a`: first four bytes", "`b`: next four bytes", "`c`: next four bytes", "`d`: next four bytes",
            "`e`: last four bytes");
        // "school q 12 34 56;" and two spaces: each byte has its own place.
        PlaceOffice o = new PlaceOffice();
        Check.is("length", o.appendInput(0x7363686f, 0x6f6c2071, 0x20313220, 0x33342035, 0x363b2020), 20);
        Check.is("load", o.loadOffice(), 0);
        Check.is("read", Check.printed(o, 0) + o.school(0, 0) + o.school(0, 1) + o.school(0, 2), "q:/123456");
        // A byte over 127 is none of a token, whatever stands around it: no sign spills into the next byte.
        for (int at = 0; at < 20; at++) {
            for (int sign : new int[] {0, 1, 127, 128, 129, 254, 255}) {
                int[] fours = Check.fours(" ".repeat(at) + (char) sign, 0);
                PlaceOffice p = new PlaceOffice();
                p.appendInput(fours[0], fours[1], fours[2], fours[3], fours[4]);
                Check.is("byte " + at + " is " + sign, p.loadOffice() + " " + p.errorCode() + " " + p.errorOffset(),
                    "-1 1 " + at);
            }
        }
        PlaceOffice q = new PlaceOffice();
        q.appendInput(-1, -1, -1, -1, -1);
        Check.is("all ones", q.loadOffice() + " " + q.errorOffset(), "-1 0");
    }

    private static void p2Full() {
        Doc.says("P2", "Returns the new length of the input buffer; -1, with no change, if it would exceed 900.");
        for (int length = 870; length <= 900; length++) {
            PlaceOffice o = new PlaceOffice();
            Check.append(o, "late 1;" + " ".repeat(length - 7));
            int[] fours = Check.fours("seed 9;seed 9;", 0);
            int answer = o.appendInput(fours[0], fours[1], fours[2], fours[3], fours[4]);
            Check.is("at " + length, answer, length <= 880 ? length + 20 : -1);
            Check.is("at " + length + ", length", o.truncateInput(901) + " " + o.truncateInput(length + 1) + " "
                + o.truncateInput(length), "false " + (length <= 880) + " true");
            Check.is("at " + length + ", load", o.loadOffice() + " " + o.count(7), "0 1");
        }
        PlaceOffice o = new PlaceOffice();
        for (int i = 1; i <= 46; i++) {
            Check.is("piece " + i, o.appendInput(0x20202020, 0x20202020, 0x20202020, 0x20202020, 0x20202020),
                i <= 45 ? 20 * i : -1);
        }
        Check.is("again and again", o.appendInput(0, 0, 0, 0, 0) + " " + o.appendInput(0, 0, 0, 0, 0), "-1 -1");
        Check.is("nothing of it came in", o.loadOffice(), 0);
        Check.is("from the start", o.appendInput(0, 0, 0, 0, 0), 20);
    }

    private static void p3() {
        Doc.says("P3", "Truncates the input buffer.", "`length`: new length",
            "Returns true; false, with no change, if length is negative or greater than the current length.");
        PlaceOffice o = new PlaceOffice();
        Check.append(o, "late 1;late 0;");
        for (int wrong : new int[] {-1, -14, 15, 20, 900, 901, Integer.MIN_VALUE, Integer.MAX_VALUE}) {
            Check.is("to " + wrong, o.truncateInput(wrong), false);
        }
        Check.is("no change", o.truncateInput(15) + " " + o.truncateInput(14), "false true");
        Check.is("to the statement", o.truncateInput(7), true);
        Check.is("no longer again", o.truncateInput(8) + " " + o.truncateInput(14), "false false");
        int[] fours = Check.fours("seed 9; appeals 3;", 0);
        Check.is("append there", o.appendInput(fours[0], fours[1], fours[2], fours[3], fours[4]), 27);
        Check.is("load", o.loadOffice() + " " + o.count(7) + " " + o.count(6), "0 1 3");
        Check.is("empty", o.truncateInput(0) + " " + o.truncateInput(1) + " " + o.truncateInput(-1), "true false false");
        PlaceOffice full = new PlaceOffice();
        Check.append(full, "x".repeat(900));
        Check.is("a full one", full.truncateInput(901) + " " + full.truncateInput(900) + " " + full.truncateInput(0),
            "false true true");
        Check.is("nothing is left", full.loadOffice(), 0);
    }

    private static void p4() {
        Doc.says("P4", "Loads a setup from the input buffer and empties the buffer, whether the load succeeds or not.",
            "Returns the number of children; -1 if there is an error.");
        PlaceOffice o = new PlaceOffice();
        for (int children : new int[] {0, 1, 2, 39, 40}) {
            Check.is(children + " children", Check.load(o, "school a 1 1 1;" + "child1 1prefers a;".repeat(children)),
                children);
            Check.is("the buffer is empty", o.truncateInput(1), false);
        }
        Check.is("an error", Check.load(o, "late 2;late"), -1);
        Check.is("the buffer is empty then, too", o.truncateInput(1), false);
        Check.is("so the next load is one of nothing", o.loadOffice() + " " + o.count(0) + " " + o.errorCode(), "0 0 0");
        Check.is("41 children", Check.load(o, SentencesOfTerms.FULL + "child1 1prefers a;"), -1);
        Check.is("at once again", o.loadOffice(), 0);
    }

    private static void p5p6() {
        Doc.says("P5", "Returns the error of the latest call of loadOffice.",
            "Returns an error code; NO_ERROR if that call succeeded or there was no call.");
        PlaceOffice o = new PlaceOffice();
        Check.is("no call", o.errorCode(), PlaceOffice.NO_ERROR);
        String[] texts = {"late", "late 2;", "zone a 1 1 1 1;", "late 1;late 1;"};
        for (int i = 0; i < 4; i++) {
            Check.load(o, texts[i]);
            Check.is(texts[i], o.errorCode(), i + 1);
            Check.append(o, "late 1;");
            o.allocate();
            Check.is("until the next call of it", o.errorCode(), i + 1);
            o.loadOffice();
            Check.is("that succeeds", o.errorCode(), PlaceOffice.NO_ERROR);
        }
        Check.load(o, "late 2;");
        Check.load(o, "x");
        Check.is("the latest one", o.errorCode(), PlaceOffice.SYNTAX);
        Doc.says("P6", "Returns the offset of the error of the latest call of loadOffice.",
            "Returns the offset; -1 if errorCode() is NO_ERROR.");
        Check.is("no call", new PlaceOffice().errorOffset(), -1);
        Check.is("at 0", o.errorOffset(), 0);
        Check.load(o, "late 2;");
        Check.is("at 5", o.errorOffset(), 5);
        o.undo();
        Check.is("until the next call", o.errorOffset(), 5);
        Check.load(o, "late 1;");
        Check.is("no error", o.errorOffset(), -1);
        Check.load(o, " ".repeat(899) + ";");
        Check.is("at the last byte", o.errorOffset(), 899);
        Check.load(o, " ".repeat(896) + "late");
        Check.is("behind the last byte", o.errorOffset(), 900);
        o.loadOffice();
        Check.is("no error", o.errorOffset(), -1);
    }

    private static void p7() {
        Doc.says("P7", "Returns a number of the office.", "`what`: 0 the schools, 1 the children, 2 the pupils, 3 the "
            + "withdrawn children, 4 the children with a place, 5 the late children (withdrawn ones, too), 6 the setting "
            + "appeals, 7 the setting late, 8 1 if the state is allocated, 0 if it is open, 9 the rounds of the latest "
            + "allocation (0 without one), 10 the places that were filled since then, 11 the changes that can be undone",
            "Returns the number.");
        PlaceOffice o = Check.office(ROW + "pupil 1 a;pupil 1 a;late 1;");
        Check.is("told", counts(o), "3 4 2 0 0 0 1 1 0 0 0 0");
        o.withdraw(1);
        Check.is("withdrawn in the open state", counts(o), "3 4 2 1 0 0 1 1 0 0 0 1");
        o.allocate();
        Check.is("allocated", counts(o), "3 4 2 1 3 0 1 1 1 3 0 2");
        o.addChild(90, 0, 0, false, 123);
        o.addChild(91, 0, 0, false, 123);
        o.withdraw(5);
        Check.is("two late ones, one withdrawn", counts(o), "3 6 2 2 3 2 1 1 1 3 0 5");
        o.withdraw(0);
        // 2 to a, 4 to c: two places are filled, and b stays with 3, that leaves it for a no more.
        Check.is("filled", counts(o), "3 6 2 3 3 2 1 1 1 3 " + o.count(10) + " 6");
        Check.is("places", places(o) + o.count(10), "[-1, -1, 0, 1, 2, -1]2");
        o.setLate(false);
        o.allocate();
        Check.is("since the latest allocation", counts(o), "3 6 2 3 3 2 1 0 1 3 0 8");
        o.undo();
        Check.is("that is undone", counts(o), "3 6 2 3 3 2 1 0 1 3 2 7");
        Check.load(o, "x");
        Check.is("an error", counts(o), "3 6 2 3 3 2 1 0 1 3 2 7");
        Check.load(o, "");
        Check.is("nothing", counts(o), "0 0 0 0 0 0 0 0 0 0 0 0");
        PlaceOffice full = Check.office("school a 40 1 1;" + "child1 1prefers a;".repeat(40));
        full.allocate();
        Check.is("forty", counts(full), "1 40 0 0 40 0 0 0 1 1 0 1");
        for (int child = 0; child < 40; child++) {
            full.withdraw(child);
        }
        Check.is("all withdrawn", counts(full), "1 40 0 40 0 0 0 0 1 1 0 10");
        Doc.says("P7", "Throws `IllegalArgumentException` if what is out of range");
        out("count", ARGUMENT, beside(0, 11), new Object[] {0}, 0);
        Check.fails("of a new object", ARGUMENT, () -> new PlaceOffice().count(12));
    }

    static String counts(PlaceOffice o) {
        StringBuilder s = new StringBuilder();
        for (int what = 0; what < 12; what++) {
            s.append(what == 0 ? "" : " ").append(o.count(what));
        }
        return s.toString();
    }

    private static String school(PlaceOffice o, int school) {
        StringBuilder s = new StringBuilder();
        for (int what = 0; what < 10; what++) {
            s.append(what == 0 ? "" : " ").append(o.school(school, what));
        }
        return s.toString();
    }

    private static void p8() {
        Doc.says("P8", "Returns a property of a school.", "`what`: 0 the capacity, 1 x, 2 y, 3 the number of its rules, 4 1 if "
            + "it has a zone, otherwise 0, 5 its pupils, 6 the children that have a place there, 7 those of them by appeal, 8 "
            + "the appeals without a claim that were allowed for it, 9 the length of its waiting list",
            "Returns the property.");
        PlaceOffice o = Check.office("appeals 2;school a 1 0 99 care sibling zone;school b 40 99 0;zone a 0 0 0 0;pupil 1 a;"
            + "pupil 2 a;pupil 1 a;child 0 98 prefers a;child 0 97 prefers a;child 0 96 prefers a;child 0 95 prefers a;");
        Check.is("open a", school(o, 0), "1 0 99 3 1 3 0 0 0 0");
        Check.is("open b", school(o, 1), "40 99 0 0 0 0 0 0 0 0");
        o.allocate();
        Check.is("allocated", school(o, 0), "1 0 99 3 1 3 1 0 0 3");
        o.appeal(1, 0);
        o.appeal(2, 0);
        o.appeal(3, 0);
        Check.is("two appeals, a third one refused", school(o, 0), "1 0 99 3 1 3 3 2 2 1");
        o.giveBack(1);
        Check.is("one given back", school(o, 0), "1 0 99 3 1 3 2 1 2 1");
        o.moveHome(0, 50, 50);
        Check.is("by a claim", o.appeal(3, 0) + " " + school(o, 0), "2 1 0 99 3 1 3 3 2 2 0");
        o.setCapacity(0, 0);
        Check.is("capacity 0", school(o, 0), "0 0 99 3 1 3 3 2 2 0");
        o.allocate();
        Check.is("forgotten", school(o, 0), "0 0 99 3 1 3 0 0 0 3");
        Check.is("still b", school(o, 1), "40 99 0 0 0 0 0 0 0 0");
        PlaceOffice full = allocated("appeals 9;school a 0 1 1;" + "pupil1a;".repeat(20) + "child1 1prefers a;".repeat(38));
        full.addChild(1, 1, 0, false, 1);
        full.addChild(1, 1, 0, false, 1);
        Check.is("all wait", school(full, 0), "0 1 1 0 0 20 0 0 0 40");
        for (int child = 0; child < 10; child++) {
            full.appeal(child, 0);
        }
        Check.is("nine appeals", school(full, 0), "0 1 1 0 0 20 9 9 9 31");
        Doc.says("P8", NO_SCHOOL);
        numbersOf("school", "Sw");
        Doc.says("P8", "Throws `IllegalArgumentException` if what is out of range");
        out("school", ARGUMENT, beside(0, 9), new Object[] {2, 0}, 1);
    }

    private static void p9() {
        Doc.says("P9", "Returns a rule of a school.", "`index`: place in the row of rules, from 0",
            "Returns 0 care, 1 sibling, 2 zone.");
        PlaceOffice o = Check.office("school a 1 1 1;school b 1 1 1 zone;school c 1 1 1 sibling care;"
            + "school d 1 1 1 zone care sibling;");
        Check.is("zone", o.rule(1, 0), 2);
        Check.is("two", o.rule(2, 0) + " " + o.rule(2, 1), "1 0");
        Check.is("three", o.rule(3, 0) + " " + o.rule(3, 1) + " " + o.rule(3, 2), "2 0 1");
        Doc.says("P9", "Throws `NoSuchElementException` if there is no such rule");
        for (int school = 0; school < 4; school++) {
            int its = school;
            for (int wrong : new int[] {-1, school, school + 1, 3, 4, 7, 8, 9, 16, 32, Integer.MIN_VALUE,
                Integer.MAX_VALUE}) {
                Check.fails("rule " + wrong + " of " + its, ELEMENT, () -> o.rule(its, wrong));
            }
        }
        Doc.says("P9", NO_SCHOOL);
        numbersOf("rule", "Sx");
    }

    private static String child(PlaceOffice o, int child) {
        StringBuilder s = new StringBuilder();
        for (int what = 0; what < 9; what++) {
            s.append(what == 0 ? "" : " ").append(o.child(child, what));
        }
        return s.toString();
    }

    private static void p10() {
        Doc.says("P10", "Returns a property of a child.", "`what`: 0 x, 1 y, 2 the family, 3 1 if it has a need of care, "
            + "otherwise 0, 4 the lot, 5 the number of preferences, 6 1 if it is late, otherwise 0, 7 1 if it was withdrawn, "
            + "otherwise 0, 8 1 if its place is one by appeal, otherwise 0", "Returns the property.");
        PlaceOffice o = Check.office("seed 4;appeals 1;school a 0 0 0;school b 1 0 0;child 0 99 care family 99 prefers a b;"
            + "child 99 0 prefers b;");
        String lot = " " + SentencesOfTerms.lot(4, 0) + " ";
        Check.is("told", child(o, 0), "0 99 99 1" + lot + "2 0 0 0");
        Check.is("the other one", child(o, 1), "99 0 0 0 " + SentencesOfTerms.lot(4, 1) + " 1 0 0 0");
        o.allocate();
        Check.is("a place, not by appeal", child(o, 0), "0 99 99 1" + lot + "2 0 0 0");
        o.appeal(0, 0);
        Check.is("by appeal", child(o, 0), "0 99 99 1" + lot + "2 0 0 1");
        o.moveHome(0, 99, 0);
        Check.is("moved", child(o, 0), "99 0 99 1" + lot + "2 0 0 1");
        o.withdraw(0);
        Check.is("withdrawn", child(o, 0), "99 0 99 1" + lot + "2 0 1 0");
        int added = o.addChild(1, 2, 3, true, 12);
        Check.is("added", child(o, added), "1 2 3 1 " + SentencesOfTerms.lot(4, 2) + " 2 1 0 0");
        Check.is("still", child(o, 0), "99 0 99 1" + lot + "2 0 1 0");
        Doc.says("P10", NO_CHILD);
        numbersOf("child", "Cw");
        Doc.says("P10", "Throws `IllegalArgumentException` if what is out of range");
        out("child", ARGUMENT, beside(0, 8), new Object[] {3, 0}, 1);
    }

    private static void p11() {
        Doc.says("P11", "Returns a preference of a child.", "`index`: place in the preferences, from 0",
            "Returns number of the school.");
        PlaceOffice o = Check.office(SentencesOfTerms.EIGHT + "child 1 1 prefers h;child 1 1 prefers a h;"
            + "child 1 1 prefers c b a;child 1 1 prefers e f g h;");
        String[] due = {"7", "07", "210", "4567"};
        for (int child = 0; child < 4; child++) {
            int its = child;
            StringBuilder s = new StringBuilder();
            for (int i = 0; i <= child; i++) {
                s.append(o.preference(child, i));
            }
            Check.is("child " + child, s.toString(), due[child]);
            for (int wrong : new int[] {-1, child + 1, 4, 5, 7, 8, 16, 32, Integer.MIN_VALUE, Integer.MAX_VALUE}) {
                Check.fails(wrong + " of child " + child, ELEMENT, () -> o.preference(its, wrong));
            }
        }
        Doc.says("P11", "Throws `NoSuchElementException` if there is no such preference");
        PlaceOffice p = allocated(ROW);
        p.giveBack(2);
        Check.is("two are left", p.preference(2, 0) + " " + p.preference(2, 1), "0 1");
        Check.fails("the one given back", ELEMENT, () -> p.preference(2, 2));
        Doc.says("P11", NO_CHILD);
        numbersOf("preference", "Cx");
    }

    private static void p12p13() {
        Doc.says("P12", "Returns where a child has a place.", "Returns number of the school; -1 without a place.");
        PlaceOffice o = Check.office(ROW);
        Check.is("open", places(o), "[-1, -1, -1, -1]");
        o.allocate();
        Check.is("allocated", places(o), "[0, -1, 2, 1]");
        o.withdraw(3);
        Check.is("withdrawn and filled", places(o), "[0, 2, 1, -1]");
        o.undo();
        o.undo();
        Check.is("undone", places(o), "[-1, -1, -1, -1]");
        PlaceOffice eight = allocated(SentencesOfTerms.EIGHT + "child 1 1 prefers h a;");
        Check.is("the eighth school", eight.placeOf(0), 7);
        Doc.says("P12", NO_CHILD);
        numbersOf("placeOf", "C");
        Doc.says("P13", "Returns which of its preferences a child got.",
            "Returns the place in its preferences, from 0; -1 without a place.");
        Check.is("the first one of the eighth school", eight.gotPreference(0), 0);
        PlaceOffice four = allocated("school a 0 0 0;school b 0 0 0;school c 0 0 0;school d 1 0 0;"
            + "child 1 1 prefers c b a d;child 5 5 prefers b d;");
        Check.is("the fourth, and none", four.gotPreference(0) + " " + four.gotPreference(1), "3 -1");
        four.setCapacity(1, 1);
        Check.is("a better one", four.gotPreference(0) + " " + four.gotPreference(1), "1 1");
        four.withdraw(0);
        Check.is("withdrawn", four.gotPreference(0) + " " + four.gotPreference(1), "-1 0");
        Check.is("open", Check.office(ROW).gotPreference(0), -1);
        Doc.says("P13", NO_CHILD);
        numbersOf("gotPreference", "C");
    }

    private static void p14() {
        Doc.says("P14", "Tells whether a child meets a rule at a school, whether the school has this rule or not.",
            "`rule`: 0 care, 1 sibling, 2 zone", "Returns true if it does.");
        PlaceOffice o = Check.office("school a 1 0 0;school b 1 0 0 care sibling zone;zone a 5 5 6 6;zone b 5 5 6 6;pupil 9 a;"
            + "pupil 9 b;child 5 6 care family 9 prefers a;child 7 5 family 8 prefers a;");
        for (int school = 0; school < 2; school++) {
            for (int rule = 0; rule < 3; rule++) {
                Check.is("rule " + rule + " at " + school, o.meets(0, school, rule) + " " + o.meets(1, school, rule),
                    "true false");
            }
        }
        o.withdraw(0);
        Check.is("withdrawn", o.meets(0, 1, 0), true);
        Check.is("without a zone", Check.office(ROW).meets(0, 0, 2), false);
        Doc.says("P14", NEITHER);
        numbersOf("meets", "CSx");
        Doc.says("P14", "Throws `IllegalArgumentException` if rule is out of range");
        out("meets", ARGUMENT, beside(0, 2), new Object[] {0, 0, 0}, 2);
    }

    private static void p15p16() {
        Doc.says("P15", "Returns the class of a child at a school.", "Returns the class.");
        PlaceOffice o = Check.office("school a 1 0 0 zone;school b 1 99 99;zone a 0 0 5 5;child 5 5 prefers b;"
            + "child 6 5 prefers b;");
        Check.is("0, and all the rules", o.classOf(0, 0) + " " + o.classOf(1, 0), "0 1");
        Check.is("no rules", o.classOf(0, 1) + " " + o.classOf(1, 1), "0 0");
        o.moveHome(0, 5, 6);
        o.moveHome(1, 0, 0);
        Check.is("of now", o.classOf(0, 0) + " " + o.classOf(1, 0), "1 0");
        o.withdraw(1);
        Check.is("withdrawn", o.classOf(1, 0), 0);
        Doc.says("P15", NEITHER);
        numbersOf("classOf", "CS");
        Doc.says("P16", "Returns the distance from a child to a school.", "Returns the distance, as a square.");
        Check.is("none, and the greatest", o.distance(1, 0) + " " + o.distance(1, 1), "0 19602");
        Check.is("25 + 36", o.distance(0, 0), 61);
        Doc.says("P16", NEITHER);
        numbersOf("distance", "CS");
    }

    private static void p17() {
        Doc.says("P17", "Returns which of two children comes first at a school; withdrawn ones are compared like others.",
            "Returns true if child comes before other; false also if both are the same.");
        PlaceOffice o = Check.office("school a 1 0 0;school b 1 9 0;child 1 0 prefers a;child 2 0 prefers a;");
        Check.is("at a", o.comesFirst(0, 0, 1) + " " + o.comesFirst(0, 1, 0), "true false");
        Check.is("at b, that none wants", o.comesFirst(1, 0, 1) + " " + o.comesFirst(1, 1, 0), "false true");
        Check.is("the same", o.comesFirst(0, 0, 0) + " " + o.comesFirst(0, 1, 1), "false false");
        o.withdraw(0);
        Check.is("one is withdrawn", o.comesFirst(0, 0, 1) + " " + o.comesFirst(0, 1, 0), "true false");
        Check.is("the same, withdrawn", o.comesFirst(0, 0, 0), false);
        o.withdraw(1);
        Check.is("both are withdrawn", o.comesFirst(0, 0, 1) + " " + o.comesFirst(1, 0, 1), "true false");
        Doc.says("P17", "Throws `IndexOutOfBoundsException` if there is no such school or child");
        numbersOf("comesFirst", "SCC");
        Check.fails("the same that there is not", INDEX, () -> o.comesFirst(0, 2, 2));
    }

    private static void p18p19p20() {
        Doc.says("P18", "Returns a child that has a place at a school.",
            "`index`: index in the order in which these children come first, from 0", "Returns number of the child.");
        PlaceOffice o = Check.office("appeals 1;school a 2 0 0;school b 1 0 0;child 3 0 prefers a;child 1 0 prefers a;"
            + "child 5 0 prefers a;child 4 0 prefers a;");
        Check.fails("open", ELEMENT, () -> o.holder(0, 0));
        Check.fails("open, no list", ELEMENT, () -> o.waiting(0, 0));
        o.allocate();
        Check.is("holders", o.holder(0, 0) + " " + o.holder(0, 1), "1 0");
        o.appeal(2, 0);
        Check.is("with one by appeal", o.holder(0, 0) + " " + o.holder(0, 1) + " " + o.holder(0, 2), "1 0 2");
        Doc.says("P18", "Throws `NoSuchElementException` if there is no such index");
        for (int wrong : new int[] {-1, 3, 4, 40, Integer.MIN_VALUE, Integer.MAX_VALUE}) {
            Check.fails("index " + wrong, ELEMENT, () -> o.holder(0, wrong));
            Check.fails("index " + wrong + " of none", ELEMENT, () -> o.holder(1, wrong));
        }
        Check.fails("of none", ELEMENT, () -> o.holder(1, 0));
        Doc.says("P18", NO_SCHOOL);
        numbersOf("holder", "Sx");
        Doc.says("P19", "Returns a child on the waiting list of a school.", "`index`: place on the list, from 0",
            "Returns number of the child.");
        Check.is("one waits", o.waiting(0, 0), 3);
        PlaceOffice full = allocated("school a 0 1 1;" + "child1 1prefers a;".repeat(40));
        Check.is("forty wait", full.waitingPlace(full.waiting(0, 39), 0) + " " + full.waitingPlace(full.waiting(0, 0), 0),
            "39 0");
        Doc.says("P19", "Throws `NoSuchElementException` if there is no such place (also if the state is open)");
        for (int wrong : new int[] {-1, 1, 2, 40, Integer.MIN_VALUE, Integer.MAX_VALUE}) {
            Check.fails("place " + wrong, ELEMENT, () -> o.waiting(0, wrong));
        }
        Check.fails("nobody waits", ELEMENT, () -> o.waiting(1, 0));
        Check.fails("behind the fortieth", ELEMENT, () -> full.waiting(0, 40));
        full.undo();
        Check.fails("open again", ELEMENT, () -> full.waiting(0, 0));
        Doc.says("P19", NO_SCHOOL);
        numbersOf("waiting", "Sx");
        Doc.says("P20", "Returns the place of a child on the waiting list of a school.",
            "Returns the place, from 0; -1 if it does not wait for it.");
        PlaceOffice p = Check.office(ROW);
        Check.is("open", p.waitingPlace(1, 0), -1);
        p.allocate();
        // By distance 1, 2, 3 wait for a in this order, 2 and 1 for b, 1 for c.
        String[] due = {"-1 -1 -1", "0 1 0", "1 0 -1", "2 -1 -1"};
        for (int child = 0; child < 4; child++) {
            Check.is("child " + child, p.waitingPlace(child, 0) + " " + p.waitingPlace(child, 1) + " "
                + p.waitingPlace(child, 2), due[child]);
        }
        p.withdraw(1);
        Check.is("withdrawn", p.waitingPlace(1, 0) + " " + p.waitingPlace(2, 0), "-1 0");
        Check.is("not a preference", o.waitingPlace(3, 1), -1);
        Doc.says("P20", NEITHER);
        numbersOf("waitingPlace", "CS");
    }

    private static void p21p22() {
        Doc.says("P21", "Tells whether a child has a claim to a school.", "Returns true if it has.");
        PlaceOffice o = Check.office(ROW);
        Check.is("open", o.hasClaim(0, 0), false);
        o.allocate();
        Check.is("behind an allocation", o.hasClaim(1, 0), false);
        o.moveHome(0, 3, 1);
        Check.is("one place behind", o.hasClaim(1, 0) + " " + o.hasClaim(2, 0) + " " + o.hasClaim(3, 0),
            "true true false");
        Check.is("holders, and other schools", o.hasClaim(0, 0) + " " + o.hasClaim(1, 1), "false false");
        o.withdraw(1);
        Check.is("withdrawn", o.hasClaim(1, 0), false);
        Check.is("not a preference", allocated("school a 1 0 0;school b 1 0 0;child 1 1 prefers a;child 9 9 prefers b;")
            .hasClaim(0, 1), false);
        Doc.says("P21", NEITHER);
        numbersOf("hasClaim", "CS");
        Doc.says("P22", "Returns the number of claims: of pairs of a child and a school to which it has a claim.",
            "Returns the number of pairs.");
        Check.is("none in a new object", new PlaceOffice().claims(), 0);
        Check.is("one", o.claims(), 1);
        // 0 behind all at a, 3 behind all at b: 1 and 2 have claims to both, 3 to a.
        PlaceOffice p = allocated(ROW);
        p.moveHome(0, 90, 0);
        p.moveHome(3, 70, 0);
        Check.is("a child with two", p.claims() + " " + p.hasClaim(1, 0) + p.hasClaim(1, 1) + p.hasClaim(2, 0)
            + p.hasClaim(2, 1) + p.hasClaim(3, 0), "5 truetruetruetruetrue");
        PlaceOffice full = allocated("school a 1 1 1;" + "child1 1prefers a;".repeat(40));
        full.moveHome(full.holder(0, 0), 50, 50);
        Check.is("39", full.claims(), 39);
    }

    private static void p23() {
        Doc.says("P23", "Makes an allocation.", "Returns the number of rounds.");
        PlaceOffice o = Check.office(ROW);
        Check.is("three", o.allocate() + " " + o.count(9), "3 3");
        Check.is("again", o.allocate() + " " + o.count(9), "3 3");
        Check.is("none", new PlaceOffice().allocate(), 0);
        // The rounds of four schools, each with more children than places: the last one tries d in round 4.
        PlaceOffice p = Check.office("school a 1 0 0;school b 1 0 0;school c 1 0 0;school d 1 0 0;"
            + "child 1 0 prefers a b c d;child 2 0 prefers a b c d;child 3 0 prefers a b c d;child 4 0 prefers a b c d;"
            + "child 5 0 prefers a b c d;");
        Check.is("four", p.allocate() + places(p), "4[0, 1, 2, 3, -1]");
        isAChange("P23", PlaceOffice::allocate);
    }

    private static void p24() {
        Doc.says("P24", "Returns in which round of the latest allocation a child got the place that it had at the end of it.",
            "Returns the round, from 1; 0 if it had no place then, or was not told yet, or there was no allocation.");
        PlaceOffice o = Check.office(ROW);
        Check.is("no allocation", o.roundOf(0) + " " + o.roundOf(3), "0 0");
        o.allocate();
        Check.is("rounds", o.roundOf(0) + " " + o.roundOf(1) + " " + o.roundOf(2) + " " + o.roundOf(3), "1 0 3 2");
        o.withdraw(0);
        Check.is("a place that was got later", o.placeOf(1) + " " + o.roundOf(1), "0 0");
        o.setCapacity(0, 2);
        Check.is("another place later", o.placeOf(2) + " " + o.roundOf(2), "0 3");
        o.giveBack(3);
        Check.is("no place any more", o.placeOf(3) + " " + o.roundOf(3), "-1 2");
        Check.is("not told yet", o.roundOf(o.addChild(0, 0, 0, false, 1)), 0);
        o.allocate();
        Check.is("the latest one", o.roundOf(1) + " " + o.roundOf(2) + " " + o.roundOf(4), "1 2 1");
        Check.is("withdrawn before it", o.roundOf(0), 0);
        o.undo();
        Check.is("undone", o.roundOf(1) + " " + o.roundOf(2) + " " + o.roundOf(4), "0 3 0");
        Check.is("withdrawn behind it", o.roundOf(0), 1);
        // 0 has b in round 1 and loses it in round 2; it gets c in round 3.
        PlaceOffice p = Check.office("school a 1 0 0;school b 1 50 0;school c 1 99 0;child 30 0 prefers b c;"
            + "child 45 0 prefers a b;child 1 0 prefers a;");
        Check.is("pushed out", p.allocate() + places(p), "3[2, 1, 0]");
        Check.is("of the place that it had at the end", p.roundOf(0) + " " + p.roundOf(1) + " " + p.roundOf(2), "3 2 1");
        Check.load(p, ROW);
        Check.is("loaded anew", p.roundOf(0) + " " + p.roundOf(1) + " " + p.roundOf(2), "0 0 0");
        Doc.says("P24", NO_CHILD);
        numbersOf("roundOf", "C");
    }

    private static void p25() {
        Doc.says("P25", "Adds a child.", "`x`: 0 to 99", "`y`: 0 to 99", "`family`: 0 to 99",
            "`care`: whether it has a need of care", "Returns its number.");
        PlaceOffice o = Check.office(SentencesOfTerms.EIGHT);
        Check.is("least ones", o.addChild(0, 0, 0, false, 1), 0);
        Check.is("greatest ones", o.addChild(99, 99, 99, true, 8765), 1);
        Check.is("mixed", o.addChild(0, 99, 1, false, 23), 2);
        Check.is("read", child(o, 0) + "|" + child(o, 1) + "|" + child(o, 2), "0 0 0 0 " + SentencesOfTerms.lot(0, 0)
            + " 1 0 0 0|99 99 99 1 " + SentencesOfTerms.lot(0, 1) + " 4 0 0 0|0 99 1 0 " + SentencesOfTerms.lot(0, 2)
            + " 2 0 0 0");
        Check.is("no care behind one with it", o.child(2, 3), 0);
        isAChange("P25", p -> p.addChild(1, 2, 3, true, 21));
        Doc.says("P25", "Throws `IllegalArgumentException` if x, y or family is out of range, or preferences is not such a "
            + "number");
        Object[] args = {1, 1, 1, true, 1};
        for (int at = 0; at < 3; at++) {
            out("addChild", ARGUMENT, beside(0, 99), args, at);
        }
    }

    private static void p25Preferences() {
        Doc.says("P25", "`preferences`: 1 to 4 decimal digits, the numbers of different schools plus 1, the most wanted one "
            + "first");
        for (int schools : new int[] {1, 3, 8}) {
            PlaceOffice o = Check.office(SentencesOfTerms.EIGHT.substring(0, 17 * schools));
            for (int number = -20; number <= 12400; number++) {
                // All that are short, and of the long ones those around the edges.
                if (number > 1300 && number % 7 != 0 && number < 9990 && number % 1000 > 20) {
                    continue;
                }
                if (number % 40 == 0) {
                    o = Check.office(SentencesOfTerms.EIGHT.substring(0, 17 * schools));
                }
                String digits = Integer.toString(number);
                boolean good = number > 0 && digits.length() <= 4 && digits.chars().distinct().count() == digits.length()
                    && digits.chars().allMatch(c -> c > '0' && c <= '0' + schools);
                Object got = Whole.answer(o, "addChild", 1, 1, 0, false, number);
                Check.is(schools + " schools, " + number, got == ARGUMENT, !good);
                if (good) {
                    StringBuilder read = new StringBuilder();
                    for (int i = 0; i < o.child((Integer) got, 5); i++) {
                        read.append(o.preference((Integer) got, i) + 1);
                    }
                    Check.is("read", read.toString(), digits);
                    o.undo();
                }
            }
            PlaceOffice last = o;
            for (int wrong : new int[] {Integer.MIN_VALUE, Integer.MAX_VALUE, -1234, 12345, 10000, 100000, -2147483647}) {
                Check.is("wrong " + wrong, Whole.answer(last, "addChild", 1, 1, 0, false, wrong), ARGUMENT);
            }
        }
    }

    private static void p25Full() {
        Doc.says("P25", "Throws `IllegalStateException` if there are 40 children");
        PlaceOffice o = Check.office("school a 1 1 1;" + "child1 1prefers a;".repeat(38));
        Check.is("the 39th and the 40th", o.addChild(1, 1, 0, false, 1) + " " + o.addChild(1, 1, 0, false, 1), "38 39");
        Check.fails("the 41st", STATE, () -> o.addChild(1, 1, 0, false, 1));
        o.allocate();
        o.withdraw(39);
        o.withdraw(0);
        Check.fails("withdrawn ones keep their numbers", STATE, () -> o.addChild(1, 1, 0, false, 1));
        Check.is("no change", o.count(1) + " " + o.count(11), "40 5");
        for (int i = 0; i < 4; i++) {
            o.undo();
        }
        Check.is("39 again", o.count(1) + " " + o.addChild(1, 1, 0, false, 1), "39 39");
    }

    private static void p26() {
        Doc.says("P26", "Withdraws a child.", "Returns the school where it had a place; -1 without one.");
        PlaceOffice o = Check.office(ROW);
        Check.is("open", o.withdraw(0) + " " + o.child(0, 7), "-1 1");
        o.undo();
        o.allocate();
        Check.is("a place", o.withdraw(3) + " " + places(o), "1 [0, 2, 1, -1]");
        Check.is("of the filled place", o.withdraw(2) + " " + places(o), "1 [0, 1, -1, -1]");
        PlaceOffice p = allocated(ROW);
        Check.is("without one", p.withdraw(1) + " " + p.count(10), "-1 0");
        isAChange("P26", q -> q.withdraw(4));
        Doc.says("P26", "Throws `IllegalStateException` if it was withdrawn before");
        Check.fails("withdrawn before", STATE, () -> p.withdraw(1));
        p.allocate();
        Check.fails("also behind an allocation", STATE, () -> p.withdraw(1));
        Check.fails("that had a place", STATE, () -> o.withdraw(2));
        o.undo();
        Check.is("undone, it can", o.withdraw(2), 1);
        PlaceOffice q = allocated(ROW);
        q.giveBack(0);
        Check.fails("withdrawn by giving back", STATE, () -> q.withdraw(0));
        Doc.says("P26", NO_CHILD);
        numbersOf("withdraw", "C");
    }

    private static void p27() {
        Doc.says("P27", "Lets a child give its place back; it goes on waiting for the schools that it prefers to that one, and "
            + "this one and those that it wanted less are taken off its preferences; if nothing would be left of these, it "
            + "is withdrawn instead (and its preferences stay told as they were).", "Returns the school.");
        String text = "appeals 9;school a 0 0 0;school b 0 0 0;school c 0 0 0;school d 0 0 0;child 1 1 prefers b d a c;";
        int[] schools = {1, 3, 0, 2};
        for (int got = 0; got < 4; got++) {
            PlaceOffice o = allocated(text);
            o.appeal(0, schools[got]);
            Check.is("its preference " + got, o.giveBack(0), schools[got]);
            Check.is("no place, " + got, o.placeOf(0) + " " + o.child(0, 8), "-1 0");
            Check.is("withdrawn, " + got, o.child(0, 7), got == 0 ? 1 : 0);
            Check.is("preferences, " + got, o.child(0, 5), got == 0 ? 4 : got);
            for (int i = 0; i < 4; i++) {
                Check.is("waits for " + i, o.waitingPlace(0, schools[i]), i < got ? 0 : -1);
                Check.is("wanted at " + i, o.wanted(schools[i], i), i < got ? 1 : 0);
            }
            if (got == 0) {
                Check.is("as they were", "" + o.preference(0, 0) + o.preference(0, 1) + o.preference(0, 2)
                    + o.preference(0, 3), "1302");
            }
            o.setCapacity(schools[3], 1);
            Check.is("the last one is not wanted any more", o.placeOf(0), -1);
            o.setCapacity(schools[0], 1);
            Check.is("the first one still", o.placeOf(0), got == 0 ? -1 : schools[0]);
            o.allocate();
            Check.is("an allocation goes by what is left", o.placeOf(0), got == 0 ? -1 : schools[0]);
        }
        PlaceOffice one = allocated("school a 1 0 0;child 1 1 prefers a;");
        Check.is("an only preference", one.giveBack(0) + " " + one.child(0, 7) + " " + one.child(0, 5), "0 1 1");
        isAChange("P27", q -> q.giveBack(2));
        Check.about("P27 a change that takes preferences off");
        Whole.same("undone", Whole.ALL, q -> Check.load(q, PAIR), q -> {
            Check.load(q, PAIR);
            q.allocate();
            Check.is("given back", q.giveBack(1) + " " + q.child(1, 5), "1 1");
            Check.is("undo", q.undo() + " " + q.child(1, 5) + " " + q.undo(), "1 2 0");
        });
    }

    private static void p27Refused() {
        Doc.says("P27", "Throws `IllegalStateException` if it has no place");
        PlaceOffice o = Check.office(ROW);
        Check.fails("open", STATE, () -> o.giveBack(0));
        o.allocate();
        Check.fails("without a place", STATE, () -> o.giveBack(1));
        Check.is("given back", o.giveBack(3), 1);
        Check.fails("twice", STATE, () -> o.giveBack(3));
        o.giveBack(0);
        Check.fails("withdrawn", STATE, () -> o.giveBack(0));
        Doc.says("P27", NO_CHILD);
        numbersOf("giveBack", "C");
    }

    private static void p28() {
        Doc.says("P28", "Moves the home of a child.", "`x`: 0 to 99", "`y`: 0 to 99",
            "Returns the number of schools of its preferences at which its class is another one then.");
        PlaceOffice o = Check.office("school a 1 0 0 zone;school b 1 0 0 care zone;school c 1 0 0 zone sibling;"
            + "school d 1 0 0 zone;school e 1 0 0 zone;zone a 0 0 9 9;zone b 0 0 9 9;zone c 0 0 9 9;zone d 0 0 9 9;"
            + "zone e 0 0 9 9;pupil 1 c;child 20 20 prefers a b c d;child 20 20 care family 1 prefers d c b;"
            + "child 20 20 prefers e;");
        Check.is("into all", o.moveHome(0, 9, 9) + " " + o.child(0, 0) + " " + o.child(0, 1), "4 9 9");
        Check.is("to where it is", o.moveHome(0, 9, 9), 0);
        Check.is("inside", o.moveHome(0, 0, 0), 0);
        Check.is("out of all", o.moveHome(0, 10, 9), 4);
        Check.is("by care, b stays; by the zone ahead, c changes", o.moveHome(1, 0, 9), 2);
        Check.is("only one is wanted", o.moveHome(2, 9, 0) + " " + o.moveHome(2, 99, 99), "1 1");
        Check.is("places at the edge", o.child(2, 0) + " " + o.child(2, 1), "99 99");
        o.withdraw(2);
        Check.is("withdrawn", o.moveHome(2, 0, 0) + " " + o.child(2, 0), "1 0");
        PlaceOffice p = allocated(ROW);
        p.moveHome(0, 99, 99);
        Check.is("it keeps its place", places(p) + p.claims(), "[0, -1, 2, 1]3");
        p.giveBack(2);
        isAChange("P28", q -> q.moveHome(0, 7, 8));
        Doc.says("P28", "Throws `IllegalArgumentException` if x or y is out of range");
        out("moveHome", ARGUMENT, beside(0, 99), new Object[] {0, 1, 1}, 1);
        out("moveHome", ARGUMENT, beside(0, 99), new Object[] {0, 1, 1}, 2);
        Doc.says("P28", NO_CHILD);
        numbersOf("moveHome", "Cxx");
    }

    private static void p29() {
        Doc.says("P29", "Sets the capacity of a school.", "`capacity`: 0 to 40", "Returns the capacity before.");
        PlaceOffice o = Check.office(ROW);
        Check.is("to 0", o.setCapacity(0, 0) + " " + o.school(0, 0), "1 0");
        Check.is("to 40", o.setCapacity(0, 40) + " " + o.school(0, 0), "0 40");
        Check.is("to what it is", o.setCapacity(0, 40) + " " + o.school(0, 0) + " " + o.count(11), "40 40 3");
        Check.is("the other ones", o.school(1, 0) + " " + o.school(2, 0), "1 1");
        Doc.says("P29", "Children that have a place keep it.");
        PlaceOffice p = allocated(ROW);
        for (int school = 0; school < 3; school++) {
            Check.is("to 0", p.setCapacity(school, 0), 1);
        }
        Check.is("they keep it", places(p) + p.freePlaces(), "[0, -1, 2, 1]0");
        p.allocate();
        Check.is("until an allocation", places(p), "[-1, -1, -1, -1]");
        isAChange("P29", q -> q.setCapacity(0, 7));
        Doc.says("P29", "Throws `IllegalArgumentException` if capacity is out of range");
        out("setCapacity", ARGUMENT, beside(0, 40), new Object[] {0, 1}, 1);
        Doc.says("P29", NO_SCHOOL);
        numbersOf("setCapacity", "Sx");
    }

    private static void p30() {
        Doc.says("P30", "Makes an appeal of a child.",
            "Returns 2 if it is allowed by a claim, 1 if it is allowed without one, 0 if it is refused.");
        PlaceOffice o = allocated(ROW);
        Check.is("without a claim", o.appeal(2, 0) + places(o), "1[0, 2, 0, 1]");
        Check.is("refused", o.appeal(3, 0) + places(o), "0[0, 2, 0, 1]");
        o.moveHome(0, 9, 0);
        Check.is("by a claim", o.appeal(3, 0) + places(o), "2[0, 1, 0, 0]");
        Check.is("another school", o.appeal(1, 0), 2);
        Doc.says("P30", "This is a change, also if it is refused.");
        // The setting allows one appeal without a claim; child 4 made it, and 0 has a claim.
        undoes(q -> Check.is("by a claim", q.appeal(0, 0), 2));
        PlaceOffice r = allocated("school a 0 0 0;child 1 1 prefers a;");
        Check.is("refused", r.appeal(0, 0) + " " + r.count(11), "0 2");
        Check.is("undone", r.undo() + " " + r.count(8) + " " + r.undo() + " " + r.count(8), "1 1 0 0");
        PlaceOffice s = allocated("appeals 1;school a 0 0 0;child 1 1 prefers a;");
        Check.is("allowed", s.appeal(0, 0) + " " + s.count(11), "1 2");
        Check.is("undone", s.undo() + places(s) + s.school(0, 8) + s.child(0, 8), "1[-1]00");
    }

    private static void p30Refused() {
        Doc.says("P30", "Throws `IllegalStateException` if the child does not wait for the school");
        PlaceOffice o = Check.office(ROW + "child 9 9 prefers b;");
        Check.fails("open", STATE, () -> o.appeal(1, 0));
        o.allocate();
        Check.fails("its own place", STATE, () -> o.appeal(3, 1));
        Check.fails("one that it wants less", STATE, () -> o.appeal(3, 2));
        Check.fails("no preference of it", STATE, () -> o.appeal(4, 0));
        o.withdraw(1);
        Check.fails("withdrawn", STATE, () -> o.appeal(1, 0));
        Check.is("allowed", o.appeal(4, 1), 1);
        Check.fails("twice", STATE, () -> o.appeal(4, 1));
        o.giveBack(3);
        Check.fails("given back", STATE, () -> o.appeal(3, 1));
        Doc.says("P30", NEITHER);
        numbersOf("appeal", "CS");
    }

    private static void p31() {
        Doc.says("P31", "Sets the setting late.", "`late`: whether it is 1", "Returns whether it was 1 before.");
        PlaceOffice o = Check.office("school a 1 0 0;child 5 0 prefers a;");
        Check.is("0 to 0", o.setLate(false) + " " + o.count(7), "false 0");
        Check.is("0 to 1", o.setLate(true) + " " + o.count(7), "false 1");
        Check.is("1 to 1", o.setLate(true) + " " + o.count(7), "true 1");
        Check.is("1 to 0", o.setLate(false) + " " + o.count(7), "true 0");
        Check.is("each is a change", o.count(11), 4);
        Check.is("told by the text", Check.office("late 1;").setLate(true) + " " + Check.office("late 0;").setLate(true),
            "true false");
        isAChange("P31", q -> q.setLate(false));
        Check.about("P31 set to what it is");
        undoes(q -> q.setLate(true));
    }

    static void run() {
        p1();
        p2();
        p2Full();
        p3();
        p4();
        p5p6();
        p7();
        p8();
        p9();
        p10();
        p11();
        p12p13();
        p14();
        p15p16();
        p17();
        p18p19p20();
        p21p22();
        p23();
        p24();
        p25();
        p25Preferences();
        p25Full();
        p26();
        p27();
        p27Refused();
        p28();
        p29();
        p30();
        p30Refused();
        p31();
    }
}
