import java.util.NoSuchElementException;

/** Each promise of the document by itself: ordinary inputs, edges, and wrong inputs. */
public final class PromisesTest {
    private static final Class<? extends Exception> INDEX = IndexOutOfBoundsException.class;
    private static final Class<? extends Exception> ARGUMENT = IllegalArgumentException.class;
    private static final Class<? extends Exception> STATE = IllegalStateException.class;
    private static final Class<? extends Exception> ELEMENT = NoSuchElementException.class;

    /** Two schools for one child each: child 1 gets a (sibling), 0 nothing, 2 gets b. */
    private static final String TWO = "school a 1 0 0 sibling zone;school b 1 10 0;zone a 0 0 3 3;pupil 7 a;"
        + "child 3 0 prefers a b;child 0 3 family 7 prefers a;child 9 0 prefers b a;appeals 1;";

    /** One row of schools a, b, c with a place each at x 0, 10, 20, and four children that want all. */
    private static final String ROW = "school a 1 0 0;school b 1 10 0;school c 1 20 0;"
        + "child 1 0 prefers a b c;child 2 0 prefers a b c;child 3 0 prefers a b c;child 4 0 prefers a b c;";

    private static int lot(int seed, int child) {
        int x = seed;
        for (int i = 0; i <= child; i++) {
            x = (x * 1103515245 + 12345) & 0x7fffffff;
        }
        return x / 65536 % 10000;
    }

    private static String repeat(String text, int times) {
        return text.repeat(times);
    }

    private static void error(String text, int code, int offset) {
        PlaceOffice o = new PlaceOffice();
        String shown = text.length() < 60 ? text : text.substring(0, 30) + "..";
        Check.is("load of " + shown, Check.load(o, text), -1);
        Check.is("error of " + shown, o.errorCode(), code);
        Check.is("offset of " + shown, o.errorOffset(), offset);
    }

    private static void loads(String text, int children) {
        PlaceOffice o = new PlaceOffice();
        String shown = text.length() < 60 ? text : text.substring(0, 30) + "..";
        int answer = Check.load(o, text);
        Check.is("load of " + shown + " (error " + o.errorCode() + " at " + o.errorOffset() + ")", answer,
            children);
    }

    private static void p1NewObject() {
        PlaceOffice o = new PlaceOffice();
        for (int what = 0; what < 12; what++) {
            Check.is("p1 count " + what, o.count(what), 0);
        }
        Check.is("p1 errorCode", o.errorCode(), PlaceOffice.NO_ERROR);
        Check.is("p1 errorOffset", o.errorOffset(), -1);
        Check.is("p1 undo", o.undo(), -1);
        Check.is("p1 output", o.outputByte(0), -1);
        Check.is("p1 input", o.truncateInput(1), false);
        Check.is("p1 empty input", o.truncateInput(0), true);
        Check.fails("p1 school 0", INDEX, () -> o.school(0, 0));
        Check.fails("p1 child 0", INDEX, () -> o.child(0, 0));
        Check.fails("p1 restoreState", STATE, o::restoreState);
        Check.is("p1 load", o.loadOffice(), 0);
    }

    private static void p2AppendInput() {
        PlaceOffice o = new PlaceOffice();
        Check.is("p2 first", o.appendInput(0x6c617465, 0x2020310a, 0x3b617070, 0x65616c73, 0x2030393b), 20);
        Check.is("p2 load", o.loadOffice(), 0);
        Check.is("p2 late", o.count(7), 1);
        Check.is("p2 appeals", o.count(6), 9);
        for (int i = 1; i <= 45; i++) {
            Check.is("p2 append " + i, o.appendInput(0x3b3b3b3b, 0, 0, 0, 0), 20 * i);
        }
        Check.is("p2 too long", o.appendInput(0x20202020, 0, 0, 0, 0), -1);
        Check.is("p2 length", o.truncateInput(901), false);
        Check.is("p2 length", o.truncateInput(900), true);
        Check.is("p2 cut", o.truncateInput(881), true);
        Check.is("p2 by a byte", o.appendInput(0x20202020, 0, 0, 0, 0), -1);
        Check.is("p2 cut", o.truncateInput(880), true);
        Check.is("p2 just so", o.appendInput(0x20202020, 0, 0, 0, 0), 900);
        // Each byte of each parameter has its place, the highest bit too.
        for (int i = 0; i < 20; i++) {
            for (int sign : new int[] {';', 0, 128, 255}) {
                int[] fours = new int[5];
                for (int k = 0; k < 20; k++) {
                    fours[k / 4] = fours[k / 4] << 8 | (k == i ? sign : ' ');
                }
                PlaceOffice p = new PlaceOffice();
                p.appendInput(fours[0], fours[1], fours[2], fours[3], fours[4]);
                Check.is("p2 byte " + i, p.loadOffice(), -1);
                Check.is("p2 byte " + i, p.errorOffset(), i);
            }
        }
    }

    private static void p3TruncateInput() {
        PlaceOffice o = new PlaceOffice();
        Check.append(o, "late 1;late 1;");
        Check.is("p3 negative", o.truncateInput(-1), false);
        Check.is("p3 least", o.truncateInput(Integer.MIN_VALUE), false);
        Check.is("p3 longer", o.truncateInput(15), false);
        Check.is("p3 most", o.truncateInput(Integer.MAX_VALUE), false);
        Check.is("p3 same", o.truncateInput(14), true);
        Check.is("p3 shorter", o.truncateInput(7), true);
        Check.is("p3 not longer again", o.truncateInput(8), false);
        Check.is("p3 load", o.loadOffice(), 0);
        Check.is("p3 late", o.count(7), 1);
    }

    private static void p4LoadOffice() {
        PlaceOffice o = Check.office(TWO);
        Check.is("p4 children", o.count(1), 3);
        Check.is("p4 buffer is empty", o.truncateInput(1), false);
        o.allocate();
        int length = o.printSchool(0);
        o.saveState();
        Check.is("p4 error", Check.load(o, "late 0;late 0;"), -1);
        Check.is("p4 buffer is empty", o.truncateInput(1), false);
        Check.is("p4 error leaves children", o.count(1), 3);
        Check.is("p4 error leaves places", o.placeOf(1), 0);
        Check.is("p4 error leaves undo", o.count(11), 1);
        Check.is("p4 error leaves saved state", o.restoreState(), 3);
        o.setLate(true);
        Check.is("p4 load", Check.load(o, "school x 2 0 0;child 0 0 prefers x;"), 1);
        Check.is("p4 output stays", Check.output(o, length), "a: 1/ 0");
        Check.is("p4 open", o.count(8), 0);
        Check.is("p4 late", o.count(7), 0);
        Check.is("p4 appeals", o.count(6), 0);
        Check.is("p4 pupils", o.count(2), 0);
        Check.is("p4 nothing to undo", o.undo(), -1);
        Check.fails("p4 nothing saved", STATE, o::restoreState);
        Check.is("p4 empty text", o.loadOffice(), 0);
        Check.is("p4 no schools", o.count(0), 0);
    }

    private static void p4LoadForgetsAll() {
        PlaceOffice o = new PlaceOffice();
        // An office may use the rows of the load before the last one again.
        for (int i = 0; i < 3; i++) {
            Check.load(o, "seed 9;school a 0 0 0 sibling;pupil 3 a;pupil 3 a;appeals 1;late 1;zone a 0 0 9 9;"
                + "child 1 1 care family 3 prefers a;child 1 1 prefers a;");
            o.allocate();
            o.appeal(0, 0);
            o.addChild(1, 1, 0, true, 1);
            o.withdraw(1);
            o.moveHome(0, 2, 2);
            o.chainOf(0);
            Check.is("p4 before", o.school(0, 8) + " " + o.child(0, 8) + " " + o.count(9), "1 1 1");
            if (i > 0) {
                Check.load(o, "school b 1 0 0 sibling;child 1 1 family 3 prefers b;");
            }
            Check.is("p4 load", Check.load(o, "school a 1 0 0 sibling;child 1 1 family 3 prefers a;"
                + "child 1 1 prefers a;child 0 0 prefers a;"), 3);
            forgotten(o);
        }
    }

    private static void forgotten(PlaceOffice o) {
        for (int child = 0; child < 3; child++) {
            for (int what : new int[] {3, 6, 7, 8}) {
                Check.is("p4 child " + child + " " + what, o.child(child, what), 0);
            }
            Check.is("p4 no place", o.placeOf(child), -1);
            Check.is("p4 no round", o.roundOf(child), 0);
        }
        for (int what = 2; what < 12; what++) {
            Check.is("p4 count " + what, o.count(what), 0);
        }
        Check.is("p4 no sibling", o.meets(0, 0, 1), false);
        for (int what = 4; what < 10; what++) {
            Check.is("p4 school " + what, o.school(0, what), 0);
        }
        Check.is("p4 no zone", o.inZone(0), 0);
        Check.is("p4 lot from the seed 0", o.child(2, 4), lot(0, 2));
    }

    private static void p5ErrorCode() {
        PlaceOffice o = new PlaceOffice();
        Check.is("p5 no call", o.errorCode(), 0);
        Check.load(o, "late 2;");
        Check.is("p5 error", o.errorCode(), PlaceOffice.OUT_OF_RANGE);
        o.allocate();
        Check.is("p5 other calls leave it", o.errorCode(), PlaceOffice.OUT_OF_RANGE);
        Check.load(o, "late 1;");
        Check.is("p5 no error", o.errorCode(), PlaceOffice.NO_ERROR);
        Check.is("constants", PlaceOffice.NO_ERROR + " " + PlaceOffice.SYNTAX + " "
            + PlaceOffice.OUT_OF_RANGE + " " + PlaceOffice.BAD_NAME + " " + PlaceOffice.MISPLACED, "0 1 2 3 4");
    }

    private static void p6ErrorOffset() {
        PlaceOffice o = new PlaceOffice();
        Check.is("p6 no call", o.errorOffset(), -1);
        Check.load(o, "#");
        Check.is("p6 at 0", o.errorOffset(), 0);
        Check.load(o, "late 1; \n x;");
        Check.is("p6 at 10", o.errorOffset(), 10);
        Check.load(o, "late 1");
        Check.is("p6 at the end", o.errorOffset(), 6);
        Check.load(o, "late 1;");
        Check.is("p6 no error", o.errorOffset(), -1);
    }

    private static void setupSyntax() {
        error(";", 1, 0);
        error("late 1;;", 1, 7);
        error("late", 1, 4);
        error("late ;", 1, 5);
        error("late a;", 1, 5);
        error("late 1 ", 1, 7);
        error("late 1 1;", 1, 7);
        error("late 1 late 1;", 1, 7);
        error("Late 1;", 1, 0);
        error("late\t1;", 1, 4);
        error("late\r1;", 1, 4);
        error("late 1\u00e9", 1, 6);
        error("late 0001;", 1, 5);
        error("latex 1;", 1, 0);
        error("lat 1;", 1, 0);
        error("care;", 1, 0);
        error("1;", 1, 0);
        error("school toolong 1 1 1;", 1, 7);
        error("school a1 1 1 1;", 1, 14);
        error("school 1 1 1 1;", 1, 7);
        for (String word : OfficeModel.RESERVED) {
            error("school " + word + " 1 1 1;", 1, 7);
        }
        error("school a 1 1;", 1, 12);
        error("school a 1 1 1 care care;", 1, 20);
        error("school a 1 1 1 care sibling zone care;", 1, 33);
        error("school a 1 1 1 zone zone;", 1, 20);
        error("school a 1 1 1 family;", 1, 15);
        error("school a 1 1 1 xx;", 1, 15);
        error("school a 1 1 1 care", 1, 19);
        String a = "school a 1 1 1;";
        error(a + "zone a 1 1 1;", 1, 27);
        error(a + "zone 1 1 1 1 1;", 1, 20);
        error(a + "zone a 1 1 1 1 1;", 1, 30);
        error(a + "pupil a 1;", 1, 21);
        error(a + "pupil 1 1;", 1, 23);
        error(a + "pupil 1 a a;", 1, 25);
        error(a + "child 1 1;", 1, 24);
        error(a + "child 1 1 prefers;", 1, 32);
        error(a + "child 1 prefers a;", 1, 23);
        error(a + "child 1 1 family 1 care prefers a;", 1, 34);
        error(a + "child 1 1 care care prefers a;", 1, 30);
        error(a + "child 1 1 family prefers a;", 1, 32);
        error(a + "child 1 1 prefers a 1;", 1, 35);
        error(a + "child 1 1 prefers a care;", 1, 35);
        error(a + "child 1 1 prefers a toolong;", 1, 35);
        error(a + "child 1 1 careprefers a;", 1, 25);
        String five = "school a 1 1 1;school b 1 1 1;school c 1 1 1;school d 1 1 1;school e 1 1 1;";
        loads(five + "child 1 1 prefers e d c b;", 1);
        error(five + "child 1 1 prefers a b c d e;", 1, 101);
        error(five + "child 1 1 prefers a b c d d;", 1, 101);
        error(five + "child 1 1 prefers a b c d x;", 1, 101);
        loads("", 0);
        loads(" \n ", 0);
        loads("\n late\n1 ; ", 0);
        loads("school abcdef 1 1 1care sibling zone;child1 1prefers abcdef;", 1);
        loads("school z 001 02 3;", 0);
        loads("school seeds 1 1 1;school car 1 1 1;school scho 1 1 1;child 1 1 prefers scho seeds car;", 1);
    }

    private static void setupRanges() {
        error("late 2;", 2, 5);
        error("appeals 10;", 2, 8);
        error("seed 1000;", 1, 5);
        loads("seed 999;seed", -1);
        loads("seed 999;appeals 9;late 0;", 0);
        error("school a 41 1 1;", 2, 9);
        error("school a 40 100 1;", 2, 12);
        error("school a 40 99 100;", 2, 15);
        error("school a 41 100 x;", 2, 9);
        loads("school a 40 99 99;school b 0 0 0;", 0);
        String a = "school a 1 1 1;";
        error(a + "zone a 100 0 0 0;", 2, 22);
        error(a + "zone a 0 100 0 0;", 2, 24);
        error(a + "zone a 0 0 100 0;", 2, 26);
        error(a + "zone a 0 0 0 100;", 2, 28);
        error(a + "zone a 5 5 4 9;", 2, 26);
        error(a + "zone a 5 5 9 4;", 2, 28);
        loads(a + "zone a 5 6 5 6;", 0);
        loads(a + "zone a 0 0 99 99;", 0);
        error(a + "pupil 0 a;", 2, 21);
        error(a + "pupil 100 a;", 2, 21);
        loads(a + "pupil 99 a;pupil 99 a;pupil 1 a;", 0);
        error(a + "child 100 1 prefers a;", 2, 21);
        error(a + "child 1 100 prefers a;", 2, 23);
        error(a + "child 1 1 family 0 prefers a;", 2, 32);
        error(a + "child 1 1 family 100 prefers a;", 2, 32);
        loads(a + "child 0 99 family 99 prefers a;child 99 0 care family 1 prefers a;", 2);
    }

    private static void setupNames() {
        error("school a 1 1 1;school a x;", 3, 22);
        error("school ab 1 1 1;zone a 0 0 1 1;", 3, 21);
        error("zone a 0 0 1 1;school a 1 1 1;", 3, 5);
        String a = "school a 1 1 1;";
        error(a + "zone a 0 0 1 1;zone a x;", 3, 35);
        error(a + "pupil 1 b;", 3, 23);
        error(a + "child 1 1 prefers b;", 3, 33);
        error(a + "child 1 1 prefers a b;", 3, 35);
        error(a + "child 1 1 prefers a a;", 3, 35);
        error(a + "school b 1 1 1;child 1 1 prefers b a b;", 3, 52);
        error("child 1 1 prefers a;", 3, 18);
        loads(a + "school aa 1 1 1;school b 1 1 1;zone b 0 0 1 1;zone aa 0 0 1 1;", 0);
        loads(a + "child 1 1 prefers a;school b 1 1 1;child 1 1 prefers b;", 2);
    }

    private static void setupMisplaced() {
        error("late 0;late 0;", 4, 7);
        error("appeals 0;appeals x;", 4, 10);
        error("seed 0;seed 0;", 4, 7);
        String a = "school a 1 1 1;";
        error(a + "child 1 1 prefers a;seed 1;", 4, 35);
        error("seed 1;" + a + "child 1 1 prefers a;seed x", 4, 42);
        loads(a + "child 1 1 prefers a;late 1;appeals 2;", 1);
        StringBuilder eight = new StringBuilder();
        for (char name = 'a'; name < 'i'; name++) {
            eight.append("school ").append(name).append(" 1 1 1;");
        }
        loads(eight.toString(), 0);
        loads(eight + "child 1 1 prefers h;", 1);
        error(eight + "school i 1 1 1;", 4, 120);
        error(eight + " school a", 4, 121);
        loads(a + repeat("pupil 1 a;", 20), 0);
        error(a + repeat("pupil 1 a;", 20) + "pupil x", 4, 215);
        loads(a + repeat("child1 1prefers a;", 40), 40);
        error(a + repeat("child1 1prefers a;", 40) + "child x", 4, 15 + 40 * 18);
        String full = a + repeat("child1 1prefers a;", 40);
        loads(full + repeat(" ", 900 - full.length()), 40);
    }

    private static void p7Count() {
        PlaceOffice o = Check.office(TWO + "late 1;");
        int[] before = {2, 3, 1, 0, 0, 0, 1, 1, 0, 0, 0, 0};
        for (int what = 0; what < 12; what++) {
            Check.is("p7 before " + what, o.count(what), before[what]);
        }
        o.allocate();
        o.addChild(5, 5, 0, false, 2);
        o.addChild(6, 6, 0, false, 2);
        o.withdraw(4);
        o.withdraw(2);
        int[] after = {2, 5, 1, 2, 2, 2, 1, 1, 1, 2, 1, 5};
        for (int what = 0; what < 12; what++) {
            Check.is("p7 after " + what, o.count(what), after[what]);
        }
        o.setLate(false);
        Check.is("p7 late", o.count(7), 0);
        o.allocate();
        Check.is("p7 filled since the allocation", o.count(10), 0);
        Check.fails("p7 -1", ARGUMENT, () -> o.count(-1));
        Check.fails("p7 12", ARGUMENT, () -> o.count(12));
        Check.fails("p7 most", ARGUMENT, () -> o.count(Integer.MAX_VALUE));
    }

    private static void p8School() {
        PlaceOffice o = Check.office("school q 3 0 0;school a 1 7 8 sibling zone;zone a 0 0 3 3;pupil 7 a;"
            + "pupil 8 a;pupil 7 q;pupil 7 a;child 7 0 prefers a;child 7 9 prefers a;child 7 7 prefers a;"
            + "child 7 5 prefers a;appeals 2;");
        o.allocate();
        Check.is("p8 appeal", o.appeal(0, 1), 1);
        Check.is("p8 appeal", o.appeal(3, 1), 1);
        int[] due = {1, 7, 8, 2, 1, 3, 3, 2, 2, 1};
        for (int what = 0; what < 10; what++) {
            Check.is("p8 " + what, o.school(1, what), due[what]);
        }
        int[] other = {3, 0, 0, 0, 0, 1, 0, 0, 0, 0};
        for (int what = 0; what < 10; what++) {
            Check.is("p8 other " + what, o.school(0, what), other[what]);
        }
        Check.fails("p8 school -1", INDEX, () -> o.school(-1, 0));
        Check.fails("p8 school 2 first", INDEX, () -> o.school(2, 10));
        Check.fails("p8 what -1", ARGUMENT, () -> o.school(0, -1));
        Check.fails("p8 what 10", ARGUMENT, () -> o.school(0, 10));
    }

    private static void p9Rule() {
        PlaceOffice o = Check.office("school a 0 0 0 zone care sibling;school b 0 0 0;school c 0 0 0 sibling;");
        Check.is("p9 zone", o.rule(0, 0), 2);
        Check.is("p9 care", o.rule(0, 1), 0);
        Check.is("p9 sibling", o.rule(0, 2), 1);
        Check.is("p9 other", o.rule(2, 0), 1);
        Check.fails("p9 index 3", ELEMENT, () -> o.rule(0, 3));
        Check.fails("p9 index 4", ELEMENT, () -> o.rule(0, 4));
        Check.fails("p9 index 8", ELEMENT, () -> o.rule(0, 8));
        Check.fails("p9 index -1", ELEMENT, () -> o.rule(0, -1));
        Check.fails("p9 no rules", ELEMENT, () -> o.rule(1, 0));
        Check.fails("p9 one rule", ELEMENT, () -> o.rule(2, 1));
        Check.fails("p9 school first", INDEX, () -> o.rule(3, 9));
        Check.fails("p9 school -1", INDEX, () -> o.rule(-1, 0));
    }

    private static void p10Child() {
        PlaceOffice o = Check.office("seed 77;school a 0 0 0;school b 0 0 0;appeals 1;"
            + "child 12 34 care family 56 prefers b a;child 3 4 prefers a;");
        int[] due = {12, 34, 56, 1, lot(77, 0), 2, 0, 0, 0};
        int[] other = {3, 4, 0, 0, lot(77, 1), 1, 0, 0, 0};
        for (int what = 0; what < 9; what++) {
            Check.is("p10 " + what, o.child(0, what), due[what]);
            Check.is("p10 other " + what, o.child(1, what), other[what]);
        }
        o.allocate();
        Check.is("p10 allowed", o.appeal(0, 1), 1);
        o.addChild(1, 1, 0, false, 1);
        Check.is("p10 by appeal", o.child(0, 8), 1);
        Check.is("p10 late", o.child(2, 6), 1);
        Check.is("p10 lot", o.child(2, 4), lot(77, 2));
        o.withdraw(0);
        Check.is("p10 no longer by appeal", o.child(0, 8), 0);
        Check.is("p10 withdrawn", o.child(0, 7), 1);
        Check.is("p10 keeps its home", o.child(0, 0), 12);
        Check.fails("p10 what 9", ARGUMENT, () -> o.child(0, 9));
        Check.fails("p10 what -1", ARGUMENT, () -> o.child(0, -1));
        Check.fails("p10 child first", INDEX, () -> o.child(3, 9));
        Check.fails("p10 child -1", INDEX, () -> o.child(-1, 0));
    }

    private static void p11Preference() {
        PlaceOffice o = Check.office("school a 0 0 0;school b 0 0 0;school c 0 0 0;school d 0 0 0;"
            + "child 1 1 prefers c a d b;child 1 1 prefers d;");
        int[] due = {2, 0, 3, 1};
        for (int i = 0; i < 4; i++) {
            Check.is("p11 " + i, o.preference(0, i), due[i]);
        }
        Check.is("p11 other", o.preference(1, 0), 3);
        Check.fails("p11 4", ELEMENT, () -> o.preference(0, 4));
        Check.fails("p11 8", ELEMENT, () -> o.preference(0, 8));
        Check.fails("p11 -1", ELEMENT, () -> o.preference(0, -1));
        Check.fails("p11 one", ELEMENT, () -> o.preference(1, 1));
        Check.fails("p11 child first", INDEX, () -> o.preference(2, 9));
        Check.fails("p11 child -1", INDEX, () -> o.preference(-1, 0));
    }

    private static void p12p13Places() {
        PlaceOffice o = Check.office(ROW);
        for (int child = 0; child < 4; child++) {
            Check.is("p12 open", o.placeOf(child), -1);
            Check.is("p13 open", o.gotPreference(child), -1);
        }
        o.allocate();
        for (int child = 0; child < 4; child++) {
            // Child 3 is the nearest one to b, and among the rest 2 to c.
            Check.is("p12 place", o.placeOf(child), new int[] {0, -1, 2, 1}[child]);
            Check.is("p13 preference", o.gotPreference(child), new int[] {0, -1, 2, 1}[child]);
        }
        o.withdraw(0);
        Check.is("p12 withdrawn", o.placeOf(0), -1);
        Check.is("p13 withdrawn", o.gotPreference(0), -1);
        Check.is("p12 filled", o.placeOf(1), 0);
        PlaceOffice p = Check.office("school a 1 0 0;school b 1 0 0;child 1 1 prefers b a;");
        p.allocate();
        Check.is("p13 by preference", p.gotPreference(0), 0);
        Check.is("p12 by school", p.placeOf(0), 1);
        Check.fails("p12 -1", INDEX, () -> p.placeOf(-1));
        Check.fails("p12 1", INDEX, () -> p.placeOf(1));
        Check.fails("p13 -1", INDEX, () -> p.gotPreference(-1));
        Check.fails("p13 1", INDEX, () -> p.gotPreference(1));
    }

    private static void p14Meets() {
        PlaceOffice o = Check.office("school a 1 0 0;school b 1 0 0 care;zone b 2 3 4 5;pupil 5 b;"
            + "child 2 3 care family 5 prefers a;child 4 5 prefers b;child 1 4 family 6 prefers a;"
            + "child 5 4 prefers a;child 3 2 prefers a;child 3 6 prefers a;");
        Check.is("p14 care, without the rule", o.meets(0, 0, 0), true);
        Check.is("p14 care", o.meets(0, 1, 0), true);
        Check.is("p14 no care", o.meets(1, 1, 0), false);
        Check.is("p14 sibling", o.meets(0, 1, 1), true);
        Check.is("p14 sibling elsewhere", o.meets(0, 0, 1), false);
        Check.is("p14 family 0", o.meets(1, 1, 1), false);
        Check.is("p14 other family", o.meets(2, 1, 1), false);
        boolean[] inZone = {true, true, false, false, false, false};
        for (int child = 0; child < 6; child++) {
            Check.is("p14 zone " + child, o.meets(child, 1, 2), inZone[child]);
            Check.is("p14 no zone " + child, o.meets(child, 0, 2), false);
        }
        Check.fails("p14 rule 3", ARGUMENT, () -> o.meets(0, 0, 3));
        Check.fails("p14 rule -1", ARGUMENT, () -> o.meets(0, 0, -1));
        Check.fails("p14 child first", INDEX, () -> o.meets(6, 0, 3));
        Check.fails("p14 school first", INDEX, () -> o.meets(0, 2, 3));
        Check.fails("p14 child -1", INDEX, () -> o.meets(-1, 0, 0));
        Check.fails("p14 school -1", INDEX, () -> o.meets(0, -1, 0));
    }

    private static void p15ClassOf() {
        PlaceOffice o = Check.office("school a 1 0 0 sibling zone care;school b 1 0 0;pupil 5 a;zone a 0 0 1 1;"
            + "child 1 1 care family 5 prefers a;child 1 1 care prefers a;child 2 2 care prefers a;"
            + "child 2 2 prefers a;");
        for (int child = 0; child < 4; child++) {
            Check.is("p15 class", o.classOf(child, 0), child);
            Check.is("p15 without rules", o.classOf(child, 1), 0);
        }
        o.withdraw(1);
        Check.is("p15 withdrawn", o.classOf(1, 0), 1);
        Check.fails("p15 child", INDEX, () -> o.classOf(4, 0));
        Check.fails("p15 child -1", INDEX, () -> o.classOf(-1, 0));
        Check.fails("p15 school", INDEX, () -> o.classOf(0, 2));
        Check.fails("p15 school -1", INDEX, () -> o.classOf(0, -1));
    }

    private static void p16Distance() {
        PlaceOffice o = Check.office("school a 1 99 0;school b 1 3 4;child 0 99 prefers a;child 5 7 prefers a;");
        Check.is("p16 farthest", o.distance(0, 0), 19602);
        Check.is("p16 near", o.distance(1, 1), 13);
        Check.is("p16 other", o.distance(0, 1), 9 + 95 * 95);
        o.moveHome(1, 3, 4);
        Check.is("p16 none", o.distance(1, 1), 0);
        Check.fails("p16 child", INDEX, () -> o.distance(2, 0));
        Check.fails("p16 child -1", INDEX, () -> o.distance(-1, 0));
        Check.fails("p16 school", INDEX, () -> o.distance(0, 2));
        Check.fails("p16 school -1", INDEX, () -> o.distance(0, -1));
    }

    /** A seed with which two of 40 children have the same lot, and these children. */
    private static int[] sameLots() {
        for (int seed = 0; seed < 1000; seed++) {
            for (int a = 0; a < 40; a++) {
                for (int b = a + 1; b < 40; b++) {
                    if (lot(seed, a) == lot(seed, b)) {
                        return new int[] {seed, a, b};
                    }
                }
            }
        }
        throw new IllegalStateException("no lots are the same");
    }

    private static void first(PlaceOffice o, int child, int other) {
        Check.is("p17 " + child + " before " + other, o.comesFirst(0, child, other), true);
        Check.is("p17 " + other + " before " + child, o.comesFirst(0, other, child), false);
    }

    private static void p17ComesFirst() {
        PlaceOffice o = Check.office("school a 1 0 0 care;school b 1 0 50;child 99 99 care prefers a;"
            + "child 0 1 prefers a;child 0 2 prefers a;child 0 2 prefers a;");
        first(o, 0, 1);
        first(o, 1, 2);
        int lower = lot(0, 2) < lot(0, 3) ? 2 : 3;
        first(o, lower, 5 - lower);
        Check.is("p17 the same", o.comesFirst(0, 1, 1), false);
        Check.is("p17 by the school", o.comesFirst(1, 2, 1), true);
        o.withdraw(1);
        first(o, 1, 2);
        o.allocate();
        o.addChild(0, 0, 0, true, 1);
        o.addChild(0, 0, 0, false, 1);
        first(o, 4, 0);
        o.setLate(true);
        first(o, 0, 4);
        first(o, 3, 4);
        first(o, 4, 5);
        o.allocate();
        first(o, 3, 4);
        int[] same = sameLots();
        PlaceOffice p = Check.office("seed " + same[0] + ";school a 1 1 1;" + repeat("child1 1prefers a;", 40));
        Check.is("p17 lots", p.child(same[1], 4), p.child(same[2], 4));
        first(p, same[1], same[2]);
        Check.fails("p17 school", INDEX, () -> o.comesFirst(2, 0, 0));
        Check.fails("p17 school -1", INDEX, () -> o.comesFirst(-1, 0, 0));
        Check.fails("p17 child", INDEX, () -> o.comesFirst(0, 6, 0));
        Check.fails("p17 child -1", INDEX, () -> o.comesFirst(0, -1, 0));
        Check.fails("p17 other", INDEX, () -> o.comesFirst(0, 0, 6));
        Check.fails("p17 other -1", INDEX, () -> o.comesFirst(0, 0, -1));
    }

    private static void p18p19Lists() {
        PlaceOffice o = Check.office("school a 3 0 0;school b 2 0 0;child 5 0 prefers a;child 1 0 prefers a b;"
            + "child 6 0 prefers a;child 7 0 prefers a b;child 2 0 prefers a;child 9 0 prefers a;");
        Check.fails("p18 open", ELEMENT, () -> o.holder(0, 0));
        Check.fails("p19 open", ELEMENT, () -> o.waiting(0, 0));
        o.allocate();
        int[] holders = {1, 4, 0};
        int[] waiting = {2, 3, 5};
        for (int i = 0; i < 3; i++) {
            Check.is("p18 " + i, o.holder(0, i), holders[i]);
            Check.is("p19 " + i, o.waiting(0, i), waiting[i]);
            Check.is("p20 " + i, o.waitingPlace(waiting[i], 0), i);
            Check.is("p20 holder " + i, o.waitingPlace(holders[i], 0), -1);
        }
        Check.is("p18 other school", o.holder(1, 0), 3);
        Check.fails("p18 3", ELEMENT, () -> o.holder(0, 3));
        Check.fails("p18 -1", ELEMENT, () -> o.holder(0, -1));
        Check.fails("p19 3", ELEMENT, () -> o.waiting(0, 3));
        Check.fails("p19 -1", ELEMENT, () -> o.waiting(0, -1));
        Check.fails("p19 none", ELEMENT, () -> o.waiting(1, 0));
        Check.fails("p18 school first", INDEX, () -> o.holder(2, 9));
        Check.fails("p18 school -1", INDEX, () -> o.holder(-1, 0));
        Check.fails("p19 school first", INDEX, () -> o.waiting(2, 9));
        Check.fails("p19 school -1", INDEX, () -> o.waiting(-1, 0));
        o.moveHome(0, 0, 0);
        Check.is("p18 order is of now", o.holder(0, 0), 0);
        o.withdraw(2);
        Check.is("p19 without the withdrawn", o.waiting(0, 0), 3);
    }

    private static void p20WaitingPlace() {
        PlaceOffice o = Check.office(ROW);
        Check.is("p20 open", o.waitingPlace(1, 0), -1);
        o.allocate();
        Check.is("p20 without a place", o.waitingPlace(1, 0), 0);
        Check.is("p20 for all", o.waitingPlace(1, 1), 1);
        Check.is("p20 last wish", o.waitingPlace(1, 2), 0);
        Check.is("p20 with a lesser place", o.waitingPlace(2, 1), 0);
        Check.is("p20 its own place", o.waitingPlace(3, 1), -1);
        Check.is("p20 wanted less", o.waitingPlace(3, 2), -1);
        o.withdraw(1);
        Check.is("p20 withdrawn", o.waitingPlace(1, 0), -1);
        Check.fails("p20 child", INDEX, () -> o.waitingPlace(4, 0));
        Check.fails("p20 child -1", INDEX, () -> o.waitingPlace(-1, 0));
        Check.fails("p20 school", INDEX, () -> o.waitingPlace(0, 3));
        Check.fails("p20 school -1", INDEX, () -> o.waitingPlace(0, -1));
    }

    private static void p21p22Claims() {
        PlaceOffice o = Check.office("school a 1 0 0;school b 1 50 0;school c 0 0 0;appeals 1;"
            + "child 2 0 prefers a b;child 3 0 prefers a b c;child 4 0 prefers a c;");
        Check.is("p21 open", o.hasClaim(1, 0), false);
        Check.is("p22 open", o.claims(), 0);
        o.allocate();
        Check.is("p22 behind an allocation", o.claims(), 0);
        o.moveHome(0, 9, 0);
        Check.is("p21 moved", o.hasClaim(1, 0), true);
        Check.is("p21 the other too", o.hasClaim(2, 0), true);
        Check.is("p21 holds it", o.hasClaim(0, 0), false);
        Check.is("p21 nobody there", o.hasClaim(2, 2), false);
        Check.is("p22 both", o.claims(), 2);
        Check.is("p30 by the claim", o.appeal(1, 0), 2);
        Check.is("p21 still behind it", o.hasClaim(2, 0), true);
        o.moveHome(1, 10, 0);
        o.moveHome(0, 1, 0);
        Check.is("p21 not by appeal", o.hasClaim(2, 0), false);
        Check.is("p22 not by appeal", o.claims(), 0);
        o.moveHome(0, 11, 0);
        Check.is("p22 one", o.claims(), 1);
        o.withdraw(2);
        Check.is("p21 withdrawn", o.hasClaim(2, 0), false);
        Check.fails("p21 child", INDEX, () -> o.hasClaim(3, 0));
        Check.fails("p21 child -1", INDEX, () -> o.hasClaim(-1, 0));
        Check.fails("p21 school", INDEX, () -> o.hasClaim(0, 3));
        Check.fails("p21 school -1", INDEX, () -> o.hasClaim(0, -1));
    }

    private static void p23p24Allocate() {
        PlaceOffice o = Check.office(ROW);
        Check.is("p24 none", o.roundOf(0), 0);
        Check.is("p23 rounds", o.allocate(), 3);
        Check.is("p23 rounds told", o.count(9), 3);
        int[] rounds = {1, 0, 3, 2};
        for (int child = 0; child < 4; child++) {
            Check.is("p24 " + child, o.roundOf(child), rounds[child]);
        }
        // A place may be taken away again: child 0 has b until child 2 tries it.
        PlaceOffice p = Check.office("school a 1 0 0;school b 1 10 0;school c 1 0 0;child 1 0 prefers b c;"
            + "child 5 0 prefers a b;child 2 0 prefers a b c;child 0 1 prefers a;child 99 0 prefers a;");
        Check.is("p23 pushed out", p.allocate(), 3);
        int[] places = {2, 1, -1, 0, -1};
        int[] pushed = {3, 2, 0, 1, 0};
        for (int child = 0; child < 5; child++) {
            Check.is("p23 place " + child, p.placeOf(child), places[child]);
            Check.is("p24 pushed " + child, p.roundOf(child), pushed[child]);
        }
        p.withdraw(1);
        Check.is("p24 of the allocation", p.roundOf(2), 0);
        Check.is("p24 later withdrawn", p.roundOf(1), 2);
        Check.is("p24 added", p.roundOf(p.addChild(1, 1, 0, false, 1)), 0);
        Check.is("p23 without the withdrawn", p.allocate(), 3);
        Check.is("p24 withdrawn before", p.roundOf(1), 0);
        Check.fails("p24 child", INDEX, () -> p.roundOf(6));
        Check.fails("p24 child -1", INDEX, () -> p.roundOf(-1));
        PlaceOffice q = Check.office("school a 0 1 1;appeals 1;child 1 1 prefers a;child 1 2 prefers a;");
        Check.is("p23 a round without places", q.allocate(), 1);
        Check.is("p30 appeal", q.appeal(0, 0), 1);
        Check.is("p30 no more", q.appeal(1, 0), 0);
        Check.is("p23 again", q.allocate(), 1);
        Check.is("p23 forgets appeals", q.placeOf(0), -1);
        Check.is("p23 forgets appeals", q.child(0, 8), 0);
        Check.is("p23 forgets their number", q.school(0, 8), 0);
        Check.is("p30 so it is allowed again", q.appeal(1, 0), 1);
        Check.is("p23 no children", new PlaceOffice().allocate(), 0);
    }

    private static void p25AddChild() {
        PlaceOffice o = Check.office("seed 5;school a 1 0 0;school b 1 0 0;school c 1 0 0;child 1 1 prefers a;");
        Check.is("p25 number", o.addChild(99, 0, 99, true, 321), 1);
        Check.is("p25 another", o.addChild(0, 99, 0, false, 2), 2);
        int[] due = {99, 0, 99, 1, lot(5, 1), 3, 0, 0, 0};
        for (int what = 0; what < 9; what++) {
            Check.is("p25 " + what, o.child(1, what), due[what]);
        }
        Check.is("p25 lot", o.child(2, 4), lot(5, 2));
        Check.is("p25 no care", o.child(2, 3), 0);
        for (int i = 0; i < 3; i++) {
            Check.is("p25 wish " + i, o.preference(1, i), 2 - i);
        }
        Check.is("p25 open", o.placeOf(2), -1);
        o.allocate();
        Check.is("p25 not late", o.child(2, 6), 0);
        Check.is("p25 late", o.child(o.addChild(0, 0, 0, false, 1), 6), 1);
        o.setCapacity(0, 2);
        o.setCapacity(1, 3);
        Check.is("p25 gets a place at once", o.placeOf(o.addChild(0, 0, 0, false, 12)), 1);
        int[] wrong = {0, -1, 4, 11, 121, 10, 102, 1230, 12312, 9, 14, -12, Integer.MIN_VALUE,
            Integer.MAX_VALUE};
        for (int preferences : wrong) {
            Check.fails("p25 preferences " + preferences, ARGUMENT,
                () -> o.addChild(0, 0, 0, false, preferences));
        }
        int[][] places = {{-1, 0, 0}, {100, 0, 0}, {0, -1, 0}, {0, 100, 0}, {0, 0, -1}, {0, 0, 100}};
        for (int[] p : places) {
            Check.fails("p25 out of range", ARGUMENT, () -> o.addChild(p[0], p[1], p[2], false, 1));
        }
        int changes = o.count(11);
        Check.is("p25 changes nothing", o.count(1) + " " + changes, "5 7");
        PlaceOffice full = Check.office("school a 1 1 1;" + repeat("child1 1prefers a;", 39));
        Check.is("p25 the 40th", full.addChild(0, 0, 0, false, 1), 39);
        Check.fails("p25 the 41st", STATE, () -> full.addChild(0, 0, 0, false, 1));
        Check.fails("p25 argument first", ARGUMENT, () -> full.addChild(0, 0, 0, false, 2));
        full.withdraw(3);
        Check.fails("p25 numbers are kept", STATE, () -> full.addChild(0, 0, 0, false, 1));
        Check.fails("p25 no schools", ARGUMENT, () -> new PlaceOffice().addChild(0, 0, 0, false, 1));
        PlaceOffice four = Check.office("school a 1 1 1;school b 1 1 1;school c 1 1 1;school d 1 1 1;");
        Check.is("p25 four wishes", four.child(four.addChild(0, 0, 0, false, 4321), 5), 4);
    }

    private static void p26Withdraw() {
        PlaceOffice o = Check.office(ROW);
        Check.is("p26 open", o.withdraw(0), -1);
        Check.is("p26 withdrawn", o.child(0, 7), 1);
        Check.fails("p26 again", STATE, () -> o.withdraw(0));
        o.undo();
        o.allocate();
        Check.is("p26 place", o.withdraw(0), 0);
        // Child 1 gets a, and nobody else moves as it had no place.
        Check.is("p26 filled", o.placeOf(1), 0);
        Check.is("p26 filled places", o.count(10), 1);
        Check.is("p26 chain", o.withdraw(1), 0);
        // 2 leaves c for a.
        Check.is("p26 chain", o.placeOf(2), 0);
        Check.is("p26 waits nowhere", o.waitingPlace(1, 2), -1);
        Check.is("p26 free", o.freePlaces(), 1);
        Check.is("p26 nothing more", o.count(10), 2);
        Check.fails("p26 child", INDEX, () -> o.withdraw(4));
        Check.fails("p26 child -1", INDEX, () -> o.withdraw(-1));
        Check.is("p26 throwing changes nothing", o.count(11), 3);
        Check.is("p26 waiting one", o.withdraw(3), 1);
    }

    private static void p27GiveBack() {
        PlaceOffice o = Check.office(ROW);
        Check.fails("p27 open", STATE, () -> o.giveBack(0));
        o.allocate();
        Check.is("p27 school", o.giveBack(3), 1);
        Check.is("p27 wishes left", o.child(3, 5), 1);
        Check.is("p27 wish left", o.preference(3, 0), 0);
        Check.is("p27 no place", o.placeOf(3), -1);
        Check.is("p27 waits", o.waitingPlace(3, 0), 2);
        Check.is("p27 no longer", o.waitingPlace(3, 1), -1);
        Check.is("p27 no longer", o.waitingPlace(3, 2), -1);
        // 2 is the nearest one to b that waits, and leaves c to 1.
        Check.is("p27 filled", o.placeOf(2), 1);
        Check.is("p27 filled", o.placeOf(1), 2);
        Check.is("p27 filled", o.count(10), 2);
        Check.is("p27 not withdrawn", o.child(3, 7), 0);
        Check.fails("p27 nothing to give", STATE, () -> o.giveBack(3));
        Check.is("p27 first wish", o.giveBack(0), 0);
        Check.is("p27 withdrawn", o.child(0, 7), 1);
        Check.is("p27 wishes stay told", o.child(0, 5), 3);
        Check.is("p27 wishes stay told", o.preference(0, 2), 2);
        Check.is("p27 filled", o.placeOf(1), 0);
        Check.fails("p27 withdrawn", STATE, () -> o.giveBack(0));
        Check.fails("p27 child", INDEX, () -> o.giveBack(4));
        Check.fails("p27 child -1", INDEX, () -> o.giveBack(-1));
        o.undo();
        o.undo();
        Check.is("p27 undone", o.preference(3, 2), 2);
        Check.is("p27 last wish", o.giveBack(2), 2);
        Check.is("p27 two left", o.child(2, 5), 2);
        PlaceOffice p = Check.office(TWO);
        p.allocate();
        p.appeal(0, 0);
        p.giveBack(0);
        Check.is("p27 no place by appeal", p.child(0, 8), 0);
    }

    private static void p28MoveHome() {
        PlaceOffice o = Check.office("school a 1 0 0 zone;school b 1 50 50 care zone;school c 1 9 9 zone;"
            + "zone a 0 0 9 9;zone b 0 0 19 19;zone c 0 0 99 8;child 5 5 prefers a b;"
            + "child 30 30 care prefers b a c;child 1 1 prefers b;");
        Check.is("p28 leaves one zone", o.moveHome(0, 10, 10), 1);
        Check.is("p28 x", o.child(0, 0), 10);
        Check.is("p28 y", o.child(0, 1), 10);
        Check.is("p28 leaves the other", o.moveHome(0, 20, 10), 1);
        Check.is("p28 into both", o.moveHome(0, 0, 9), 2);
        Check.is("p28 stays", o.moveHome(0, 0, 9), 0);
        Check.is("p28 classes, not rules", o.moveHome(1, 5, 5), 2);
        Check.is("p28 only its wishes", o.moveHome(2, 15, 5), 0);
        Check.is("p28 edges", o.moveHome(2, 99, 99), 1);
        Check.is("p28 changes", o.count(11), 7);
        Check.fails("p28 x -1", ARGUMENT, () -> o.moveHome(0, -1, 0));
        Check.fails("p28 x 100", ARGUMENT, () -> o.moveHome(0, 100, 0));
        Check.fails("p28 y -1", ARGUMENT, () -> o.moveHome(0, 0, -1));
        Check.fails("p28 y 100", ARGUMENT, () -> o.moveHome(0, 0, 100));
        Check.fails("p28 child first", INDEX, () -> o.moveHome(3, 100, 0));
        Check.fails("p28 child -1", INDEX, () -> o.moveHome(-1, 0, 0));
        Check.is("p28 throwing changes nothing", o.child(0, 1) + " " + o.count(11), "9 7");
        o.withdraw(0);
        Check.is("p28 withdrawn", o.moveHome(0, 99, 9), 2);
        PlaceOffice p = Check.office(TWO);
        p.allocate();
        p.moveHome(1, 90, 90);
        Check.is("p28 keeps its place", p.placeOf(1), 0);
    }

    private static void p29SetCapacity() {
        PlaceOffice o = Check.office(ROW);
        Check.is("p29 before", o.setCapacity(0, 40), 1);
        Check.is("p29 before", o.setCapacity(0, 0), 40);
        Check.is("p29 told", o.school(0, 0), 0);
        o.setCapacity(0, 1);
        o.allocate();
        Check.is("p29 more", o.setCapacity(0, 2), 1);
        Check.is("p29 filled", o.placeOf(1), 0);
        Check.is("p29 fewer", o.setCapacity(0, 0), 2);
        Check.is("p29 they keep it", o.school(0, 6), 2);
        o.withdraw(0);
        Check.is("p29 not filled", o.school(0, 6), 1);
        Check.is("p29 one more is not enough", o.setCapacity(0, 1), 0);
        Check.is("p29 not filled", o.placeOf(2), 2);
        o.setCapacity(0, 3);
        Check.is("p29 a chain", o.school(0, 6), 3);
        Check.is("p29 a chain", o.count(10), 3);
        Check.fails("p29 -1", ARGUMENT, () -> o.setCapacity(0, -1));
        Check.fails("p29 41", ARGUMENT, () -> o.setCapacity(0, 41));
        Check.fails("p29 school first", INDEX, () -> o.setCapacity(3, 41));
        Check.fails("p29 school -1", INDEX, () -> o.setCapacity(-1, 0));
        Check.is("p29 changes", o.count(11), 9);
    }

    private static void filling() {
        // Both schools get a place; the first school by number comes first, and its first one leaves b.
        PlaceOffice o = Check.office("school a 0 0 0;school b 1 10 0;school c 1 10 0;child 9 0 prefers a b c;"
            + "child 1 0 prefers b c;child 0 1 prefers b c;child 2 0 prefers c a;");
        o.allocate();
        Check.is("fill b", o.placeOf(0), 1);
        Check.is("fill c", o.placeOf(3), 2);
        o.setCapacity(0, 1);
        Check.is("fill a", o.placeOf(0), 0);
        Check.is("fill b", o.placeOf(1), 1);
        Check.is("fill two", o.count(10), 2);
        // A place by appeal that is left by filling is one no more.
        PlaceOffice p = Check.office("school a 0 0 0;school b 0 0 0;appeals 1;child 1 0 prefers a b;");
        p.allocate();
        Check.is("fill appeal", p.appeal(0, 1), 1);
        p.setCapacity(0, 1);
        Check.is("fill leaves it", p.placeOf(0), 0);
        Check.is("fill no appeal", p.child(0, 8), 0);
        Check.is("fill no appeal", p.school(0, 7) + " " + p.school(1, 7) + " " + p.school(1, 8), "0 0 1");
    }

    private static void p30Appeal() {
        PlaceOffice o = Check.office(ROW + "appeals 2;");
        Check.fails("p30 open", STATE, () -> o.appeal(0, 0));
        o.allocate();
        Check.fails("p30 its own place", STATE, () -> o.appeal(0, 0));
        Check.fails("p30 wanted less", STATE, () -> o.appeal(0, 1));
        Check.is("p30 no claim", o.appeal(2, 0), 1);
        // 2 leaves c, and 1, that had no place, gets it.
        Check.is("p30 leaves its old place", o.placeOf(1), 2);
        Check.is("p30 filled", o.count(10), 1);
        Check.is("p30 beyond the capacity", o.school(0, 6), 2);
        Check.is("p30 second", o.appeal(3, 0), 1);
        Check.is("p30 refused", o.appeal(1, 0), 0);
        // 3 left b, so that 1 went there by filling.
        Check.is("p30 refused leaves its place", o.placeOf(1), 1);
        Check.is("p30 refused is a change", o.count(11), 4);
        Check.is("p30 allowed", o.school(0, 8), 2);
        o.moveHome(0, 5, 5);
        Check.is("p30 claim", o.appeal(1, 0), 2);
        Check.is("p30 claims are not counted", o.school(0, 8), 2);
        Check.is("p30 by appeal", o.school(0, 7), 3);
        Check.is("p30 each school by itself", o.school(1, 8), 0);
        Check.fails("p30 no longer waits", STATE, () -> o.appeal(1, 0));
        o.withdraw(1);
        Check.fails("p30 withdrawn", STATE, () -> o.appeal(1, 0));
        Check.fails("p30 child", INDEX, () -> o.appeal(4, 0));
        Check.fails("p30 child -1", INDEX, () -> o.appeal(-1, 0));
        Check.fails("p30 school", INDEX, () -> o.appeal(0, 3));
        Check.fails("p30 school -1", INDEX, () -> o.appeal(0, -1));
        PlaceOffice p = Check.office("school a 0 0 0;child 1 1 prefers a;");
        p.allocate();
        Check.is("p30 none by the setting", p.appeal(0, 0), 0);
        PlaceOffice q = Check.office("school a 0 0 0;school b 0 0 0;appeals 1;child 1 1 prefers a b;");
        q.allocate();
        q.appeal(0, 1);
        Check.is("p30 from an appeal to the next", q.appeal(0, 0), 1);
        Check.is("p30 by appeal", q.child(0, 8) + " " + q.school(0, 7) + " " + q.school(1, 7), "1 1 0");
    }

    private static void p31SetLate() {
        PlaceOffice o = Check.office("school a 1 0 0;child 5 0 prefers a;");
        Check.is("p31 0 before", o.setLate(true), false);
        Check.is("p31 1 before", o.setLate(true), true);
        Check.is("p31 told", o.count(7), 1);
        Check.is("p31 1 before", o.setLate(false), true);
        Check.is("p31 told", o.count(7), 0);
        Check.is("p31 changes", o.count(11), 3);
        o.undo();
        Check.is("p31 undone", o.count(7), 1);
        o.allocate();
        o.addChild(0, 0, 0, false, 1);
        o.allocate();
        Check.is("p31 late", o.placeOf(0), 0);
        o.setLate(false);
        Check.is("p31 a claim", o.hasClaim(1, 0), true);
        o.allocate();
        Check.is("p31 not late", o.placeOf(1), 0);
        Check.is("p31 setting of the text", Check.office("late 1;").setLate(true), true);
    }

    private static void p32LastHolder() {
        PlaceOffice o = Check.office("school a 2 0 0;school b 1 0 0;child 5 0 prefers a;child 9 0 prefers a;"
            + "child 1 0 prefers a;");
        Check.is("p32 open", o.lastHolder(0), -1);
        o.allocate();
        Check.is("p32 last", o.lastHolder(0), 0);
        Check.is("p32 none", o.lastHolder(1), -1);
        o.moveHome(2, 7, 0);
        Check.is("p32 moved", o.lastHolder(0), 2);
        Check.fails("p32 school", INDEX, () -> o.lastHolder(2));
        Check.fails("p32 school -1", INDEX, () -> o.lastHolder(-1));
    }

    private static void p33p34Shares() {
        PlaceOffice o = Check.office(ROW);
        Check.is("p33 open", o.firstShare(), 0.0f);
        Check.is("p34 open", o.meanPreference(), 0.0);
        o.allocate();
        Check.is("p33 one of three", o.firstShare(), 1.0f / 3.0f);
        Check.is("p34 one, two, three", o.meanPreference(), 2.0);
        o.setCapacity(1, 2);
        // Now child 2 has b, and 1 has c: a, b, b, c.
        Check.is("p33 one of four", o.firstShare(), 0.25f);
        Check.is("p34 of four", o.meanPreference(), 2.0);
        o.withdraw(3);
        Check.is("p33 withdrawn", o.firstShare(), 1.0f / 3.0f);
        Check.is("p34 1, 2, 2", o.meanPreference(), 5.0 / 3.0);
        PlaceOffice none = Check.office("school a 0 0 0;child 1 1 prefers a;");
        none.allocate();
        Check.is("p33 none", none.firstShare(), 0.0f);
        Check.is("p34 none", none.meanPreference(), 0.0);
    }

    private static double root(int v) {
        double r = v;
        for (int i = 0; i < 60; i++) {
            r = (r + v / r) / 2.0;
        }
        return r;
    }

    private static void p35p47Ways() {
        PlaceOffice o = Check.office("school a 2 0 0;school b 1 0 50;child 3 4 prefers a;child 1 1 prefers a;"
            + "child 9 9 prefers a;child 0 50 prefers b;");
        Check.is("p35 open", o.way(0), -1.0f);
        Check.is("p47 open", o.meanWay(), 0.0);
        o.allocate();
        Check.is("p35 5", o.way(0), 5.0f);
        Check.is("p35 root of 2", o.way(1), (float) root(2));
        Check.is("p35 none", o.way(2), -1.0f);
        Check.is("p35 0", o.way(3), 0.0f);
        Check.is("p47 mean", o.meanWay(), (5.0 + root(2) + 0.0) / 3.0);
        o.withdraw(1);
        Check.is("p47 filled", o.meanWay(), (5.0 + root(162)) / 3.0);
        PlaceOffice far = Check.office("school a 40 0 0;child 99 99 prefers a;child 98 97 prefers a;"
            + "child 1 2 prefers a;child 7 3 prefers a;");
        far.allocate();
        Check.is("p35 far", far.way(0), (float) root(19602));
        Check.is("p47 far", far.meanWay(), (root(19602) + root(98 * 98 + 97 * 97) + root(5) + root(58)) / 4.0);
        Check.fails("p35 child", INDEX, () -> o.way(4));
        Check.fails("p35 child -1", INDEX, () -> o.way(-1));
    }

    private static void p36Wanted() {
        PlaceOffice o = Check.office("school a 1 0 0;school b 1 0 0;school c 1 0 0;school d 1 0 0;"
            + "child 1 1 prefers a b c d;child 1 1 prefers a c;child 1 1 prefers b a d c;");
        int[][] due = {{2, 1, 0, 0}, {1, 1, 0, 0}, {0, 1, 1, 1}, {0, 0, 1, 1}};
        for (int school = 0; school < 4; school++) {
            for (int i = 0; i < 4; i++) {
                Check.is("p36 " + school + " " + i, o.wanted(school, i), due[school][i]);
            }
            for (int i : new int[] {-1, 4, 8, Integer.MIN_VALUE, Integer.MAX_VALUE}) {
                Check.is("p36 no index", o.wanted(school, i), 0);
            }
        }
        o.withdraw(1);
        Check.is("p36 withdrawn", o.wanted(0, 0), 1);
        Check.fails("p36 school", INDEX, () -> o.wanted(4, 0));
        Check.fails("p36 school -1", INDEX, () -> o.wanted(-1, 0));
    }

    private static void p37InZone() {
        PlaceOffice o = Check.office("school a 1 0 0;school b 1 0 0;zone a 2 2 4 4;child 2 4 prefers b;"
            + "child 3 3 prefers b;child 1 3 prefers a;child 3 5 prefers a;");
        Check.is("p37 in the zone", o.inZone(0), 2);
        Check.is("p37 no zone", o.inZone(1), 0);
        o.withdraw(1);
        Check.is("p37 withdrawn", o.inZone(0), 1);
        o.moveHome(2, 2, 2);
        Check.is("p37 moved", o.inZone(0), 2);
        Check.fails("p37 school", INDEX, () -> o.inZone(2));
        Check.fails("p37 school -1", INDEX, () -> o.inZone(-1));
    }

    private static void p38Together() {
        PlaceOffice o = Check.office("school a 3 0 0;school b 9 0 50;child 1 0 family 1 prefers a;"
            + "child 2 0 family 1 prefers a;child 3 0 family 99 prefers a;child 0 51 family 99 prefers b;"
            + "child 0 52 family 2 prefers b;child 0 53 prefers b;child 0 54 prefers b;"
            + "child 9 0 family 2 prefers a b;child 9 9 family 1 prefers a;");
        Check.is("p38 open", o.together(), 0);
        o.allocate();
        // 1 (the third one has no place) and 2; the family 99 is apart.
        Check.is("p38 together", o.together(), 2);
        o.withdraw(4);
        Check.is("p38 one alone", o.together(), 1);
        o.setCapacity(0, 4);
        Check.is("p38 three of a family", o.together(), 1);
        o.withdraw(3);
        Check.is("p38 one with a place", o.together(), 1);
        o.addChild(3, 3, 99, false, 2);
        Check.is("p38 the family 99, apart", o.together(), 1);
        o.undo();
        o.addChild(3, 3, 99, false, 1);
        o.setCapacity(0, 9);
        Check.is("p38 the family 99", o.together(), 2);
    }

    private static void p39Cutoff() {
        PlaceOffice o = Check.office("school a 2 0 0 care;school b 1 0 0;child 5 0 care prefers a;"
            + "child 4 3 prefers a;child 1 9 prefers a;");
        for (int what = 0; what < 3; what++) {
            Check.is("p39 open", o.cutoff(0, what), -1);
        }
        o.allocate();
        Check.is("p39 class", o.cutoff(0, 0), 1);
        Check.is("p39 distance", o.cutoff(0, 1), 25);
        Check.is("p39 lot", o.cutoff(0, 2), lot(0, 1));
        Check.is("p39 none", o.cutoff(1, 0), -1);
        Check.fails("p39 what 3", ARGUMENT, () -> o.cutoff(0, 3));
        Check.fails("p39 what -1", ARGUMENT, () -> o.cutoff(0, -1));
        Check.fails("p39 what, none there", ARGUMENT, () -> o.cutoff(1, 3));
        Check.fails("p39 school first", INDEX, () -> o.cutoff(2, 3));
        Check.fails("p39 school -1", INDEX, () -> o.cutoff(-1, 0));
    }

    private static void p40Nearest() {
        PlaceOffice o = Check.office("school a 1 0 0;school b 1 10 0;school c 1 10 0;child 6 0 prefers a;"
            + "child 5 0 prefers c;child 1 0 prefers b;");
        Check.is("p40 nearest", o.nearest(0), 1);
        Check.is("p40 tie", o.nearest(1), 0);
        Check.is("p40 whatever it prefers", o.nearest(2), 0);
        o.moveHome(0, 10, 0);
        Check.is("p40 tie", o.nearest(0), 1);
        Check.fails("p40 child", INDEX, () -> o.nearest(3));
        Check.fails("p40 child -1", INDEX, () -> o.nearest(-1));
        Check.fails("p40 no schools", INDEX, () -> new PlaceOffice().nearest(0));
    }

    private static void p41ChainOf() {
        PlaceOffice o = Check.office("school a 1 0 0;school b 1 10 0;school c 1 20 0;child 1 0 prefers a;"
            + "child 9 0 prefers a b;child 8 0 prefers b c;child 7 0 prefers c;");
        Check.is("p41 open", o.chainOf(0), 0);
        o.allocate();
        // Without child 0: 1 leaves b for a, 2 leaves c for b, 3 gets c.
        Check.is("p41 three", o.chainOf(0), 3);
        Check.is("p41 two", o.chainOf(1), 2);
        Check.is("p41 one", o.chainOf(2), 1);
        Check.is("p41 waiting only", o.chainOf(3), 0);
        Check.is("p41 changes nothing", o.placeOf(0) + " " + o.count(10) + " " + o.count(11), "0 0 1");
        o.withdraw(0);
        Check.is("p41 withdrawn", o.chainOf(0), 0);
        Check.is("p41 counts from now", o.chainOf(3), 0);
        Check.fails("p41 child", INDEX, () -> o.chainOf(4));
        Check.fails("p41 child -1", INDEX, () -> o.chainOf(-1));
    }

    private static void p42FreePlaces() {
        PlaceOffice o = Check.office("school a 2 0 0;school b 3 10 0;appeals 2;child 1 0 prefers a;"
            + "child 2 0 prefers a;child 9 0 prefers a b;");
        Check.is("p42 open", o.freePlaces(), 5);
        o.allocate();
        Check.is("p42 two", o.freePlaces(), 2);
        o.appeal(2, 0);
        Check.is("p42 too many count as none", o.freePlaces(), 3);
        o.setCapacity(0, 0);
        Check.is("p42 too many count as none", o.freePlaces(), 3);
    }

    private static void p43p44Trades() {
        PlaceOffice o = Check.office("school a 1 0 0;school b 1 50 0;school c 1 99 0;child 49 0 prefers a b;"
            + "child 1 0 prefers b a;child 48 0 prefers b c;child 2 0 prefers a;");
        Check.is("p43 open", o.tradePartner(0), -1);
        Check.is("p44 open", o.trades(), 0);
        o.moveHome(3, 0, 0);
        o.moveHome(0, 50, 0);
        o.allocate();
        // 3 has a, 0 has b, 2 has c, and 1 nothing.
        Check.is("p43 none yet", o.tradePartner(0), -1);
        o.withdraw(3);
        Check.is("p43 after filling", o.placeOf(1), 0);
        Check.is("p43 after filling", o.tradePartner(0), 1);
        PlaceOffice p = Check.office("school a 1 0 0;school b 1 50 0;school c 2 99 0;"
            + "child 49 0 prefers a b;child 1 0 prefers b a;child 9 0 prefers b c;child 2 0 prefers a c;");
        p.allocate();
        // 1 has a and 0 has b, each wants the other one's; 2 and 3 have c.
        Check.is("p43 partner", p.tradePartner(0), 1);
        Check.is("p43 partner back", p.tradePartner(1), 0);
        Check.is("p43 nobody wants c more", p.tradePartner(2), -1);
        Check.is("p44 one", p.trades(), 1);
        PlaceOffice q = Check.office("school a 2 0 0;school b 1 50 0;child 49 0 prefers a b;"
            + "child 1 0 prefers b a;child 2 0 prefers b a;child 48 0 prefers b;");
        q.allocate();
        // 3 keeps 1 and 2 out of b, they keep 0 out of a, and 0 then keeps 3 out of b.
        Check.is("p43 the smallest one", q.tradePartner(0), 1);
        Check.is("p44 two", q.trades(), 2);
        q.withdraw(0);
        Check.is("p43 without a place", q.tradePartner(0), -1);
        Check.is("p44 none", q.trades(), 0);
        Check.fails("p43 child", INDEX, () -> q.tradePartner(4));
        Check.fails("p43 child -1", INDEX, () -> q.tradePartner(-1));
    }

    private static void p45HoldersOfClass() {
        PlaceOffice o = Check.office("school a 4 0 0 care zone;school b 1 0 0;zone a 0 0 5 5;"
            + "child 1 1 care prefers a;child 9 9 care prefers a;child 1 1 prefers a;child 9 9 prefers a;"
            + "child 10 10 prefers a;");
        Check.is("p45 open", o.holdersOfClass(0, 0), 0);
        o.allocate();
        Check.is("p45 0", o.holdersOfClass(0, 0), 2);
        Check.is("p45 1", o.holdersOfClass(0, 1), 1);
        Check.is("p45 2", o.holdersOfClass(0, 2), 1);
        for (int wanted : new int[] {3, -1, Integer.MIN_VALUE, Integer.MAX_VALUE}) {
            Check.is("p45 " + wanted, o.holdersOfClass(0, wanted), 0);
        }
        Check.is("p45 elsewhere", o.holdersOfClass(1, 0), 0);
        Check.fails("p45 school", INDEX, () -> o.holdersOfClass(2, 0));
        Check.fails("p45 school -1", INDEX, () -> o.holdersOfClass(-1, 0));
    }

    private static void p46TriesOf() {
        PlaceOffice o = Check.office(ROW);
        Check.is("p46 a", o.triesOf(0), 4);
        Check.is("p46 b", o.triesOf(1), 3);
        Check.is("p46 c", o.triesOf(2), 2);
        o.withdraw(1);
        Check.is("p46 withdrawn", o.triesOf(0), 3);
        Check.is("p46 withdrawn", o.triesOf(2), 1);
        Check.is("p46 no allocation is made", o.count(8), 0);
        PlaceOffice p = Check.office(TWO);
        Check.is("p46 a", p.triesOf(0), 2);
        Check.is("p46 b", p.triesOf(1), 2);
        p.allocate();
        p.setCapacity(1, 0);
        Check.is("p46 of what would be", p.triesOf(0), 3);
        Check.fails("p46 school", INDEX, () -> p.triesOf(2));
        Check.fails("p46 school -1", INDEX, () -> p.triesOf(-1));
    }

    private static void p48MostWaited() {
        PlaceOffice o = Check.office("school a 1 0 0;school b 1 0 0;school c 1 0 0;child 1 0 prefers b;"
            + "child 2 0 prefers b;child 3 0 prefers c;child 4 0 prefers c;child 5 0 prefers c;");
        Check.is("p48 open", o.mostWaited(), -1);
        o.allocate();
        Check.is("p48 longest", o.mostWaited(), 2);
        o.withdraw(4);
        Check.is("p48 tie", o.mostWaited(), 1);
        o.withdraw(0);
        Check.is("p48 one left", o.mostWaited(), 2);
        o.withdraw(2);
        Check.is("p48 none", o.mostWaited(), -1);
    }

    private static void p49Siblings() {
        PlaceOffice o = Check.office("school a 1 0 0;pupil 5 a;child 1 1 family 5 prefers a;"
            + "child 1 1 prefers a;child 1 1 prefers a;child 1 1 family 5 prefers a;child 1 1 family 6 prefers a;"
            + "child 1 1 family 5 prefers a;");
        Check.is("p49 others", o.siblings(0), 0b101000L);
        Check.is("p49 others", o.siblings(5), 0b001001L);
        Check.is("p49 family 0", o.siblings(1), 0L);
        Check.is("p49 alone", o.siblings(4), 0L);
        o.withdraw(3);
        Check.is("p49 withdrawn", o.siblings(0), 0b100000L);
        Check.is("p49 of the withdrawn", o.siblings(3), 0b100001L);
        PlaceOffice full = Check.office("school a 1 1 1;" + repeat("child1 1prefers a;", 38));
        full.addChild(0, 0, 7, false, 1);
        full.addChild(0, 0, 7, false, 1);
        Check.is("p49 the last bit", full.siblings(38), 1L << 39);
        Check.fails("p49 child", INDEX, () -> o.siblings(6));
        Check.fails("p49 child -1", INDEX, () -> o.siblings(-1));
    }

    private static void p50ChangedByAllocation() {
        PlaceOffice o = Check.office(ROW);
        Check.is("p50 open", o.changedByAllocation(), 3);
        o.allocate();
        Check.is("p50 none", o.changedByAllocation(), 0);
        o.moveHome(0, 90, 0);
        // 0 would lose a to 1, which has none.
        Check.is("p50 two", o.changedByAllocation(), 2);
        Check.is("p50 changes nothing", o.placeOf(0) + " " + o.count(11) + " " + o.claims(), "0 2 3");
    }

    private static void p51PlaceWith() {
        PlaceOffice o = Check.office(ROW);
        Check.is("p51 as it is", o.placeWith(1, 0, 1), -1);
        Check.is("p51 two", o.placeWith(1, 0, 2), 0);
        Check.is("p51 more at c", o.placeWith(1, 2, 40), 2);
        Check.is("p51 none at a", o.placeWith(0, 0, 0), -1);
        Check.is("p51 changes nothing", o.school(0, 0) + " " + o.count(8) + " " + o.count(11), "1 0 0");
        o.withdraw(1);
        Check.is("p51 withdrawn", o.placeWith(1, 0, 40), -1);
        Check.fails("p51 -1", ARGUMENT, () -> o.placeWith(0, 0, -1));
        Check.fails("p51 41", ARGUMENT, () -> o.placeWith(0, 0, 41));
        Check.fails("p51 child first", INDEX, () -> o.placeWith(4, 0, 41));
        Check.fails("p51 child -1", INDEX, () -> o.placeWith(-1, 0, 1));
        Check.fails("p51 school first", INDEX, () -> o.placeWith(0, 3, 41));
        Check.fails("p51 school -1", INDEX, () -> o.placeWith(0, -1, 1));
    }

    private static void p52NeededCapacity() {
        PlaceOffice o = Check.office(ROW);
        for (int child = 0; child < 4; child++) {
            Check.is("p52 a " + child, o.neededCapacity(child, 0), child + 1);
        }
        Check.is("p52 gets better", o.neededCapacity(0, 1), -1);
        Check.is("p52 b", o.neededCapacity(3, 1), 1);
        Check.is("p52 b", o.neededCapacity(1, 1), 3);
        Check.is("p52 changes nothing", o.school(0, 0) + " " + o.count(8), "1 0");
        PlaceOffice full = Check.office("school a 0 1 1;school b 0 1 1;" + repeat("child1 1prefers a;", 40));
        int most = 0;
        for (int child = 0; child < 40; child++) {
            most = Math.max(most, full.neededCapacity(child, 0));
        }
        Check.is("p52 40", most, 40);
        Check.is("p52 not wanted", full.neededCapacity(0, 1), -1);
        full.withdraw(0);
        Check.is("p52 withdrawn", full.neededCapacity(0, 0), -1);
        Check.fails("p52 child", INDEX, () -> o.neededCapacity(4, 0));
        Check.fails("p52 child -1", INDEX, () -> o.neededCapacity(-1, 0));
        Check.fails("p52 school", INDEX, () -> o.neededCapacity(0, 3));
        Check.fails("p52 school -1", INDEX, () -> o.neededCapacity(0, -1));
    }

    private static void p53GainersWithout() {
        PlaceOffice o = Check.office(ROW);
        // Without 0: a to 1, b to 3, c to 2, so only 1 has a better place.
        Check.is("p53 without 0", o.gainersWithout(0), 0b0010L);
        // Without 3: b to 2, c to 1.
        Check.is("p53 without 3", o.gainersWithout(3), 0b0110L);
        Check.is("p53 without 1", o.gainersWithout(1), 0L);
        Check.is("p53 changes nothing", o.count(3) + " " + o.count(8), "0 0");
        o.withdraw(0);
        Check.is("p53 withdrawn", o.gainersWithout(0), 0L);
        PlaceOffice full = Check.office("school a 1 1 1;" + repeat("child2 2prefers a;", 40));
        full.moveHome(0, 1, 1);
        full.moveHome(39, 1, 2);
        Check.is("p53 the last bit", full.gainersWithout(0), 1L << 39);
        Check.fails("p53 child", INDEX, () -> o.gainersWithout(4));
        Check.fails("p53 child -1", INDEX, () -> o.gainersWithout(-1));
    }

    private static void p54BestByOrder() {
        PlaceOffice o = Check.office(ROW);
        int[] due = {0, -1, 2, 1};
        for (int child = 0; child < 4; child++) {
            Check.is("p54 " + child, o.bestByOrder(child), due[child]);
        }
        o.allocate();
        o.moveHome(0, 99, 0);
        Check.is("p54 of what would be", o.bestByOrder(1), 0);
        Check.is("p54 changes nothing", o.placeOf(1), -1);
        o.withdraw(0);
        Check.is("p54 withdrawn", o.bestByOrder(0), -1);
        Check.fails("p54 child", INDEX, () -> o.bestByOrder(4));
        Check.fails("p54 child -1", INDEX, () -> o.bestByOrder(-1));
    }

    private static void p55p56Output() {
        PlaceOffice o = Check.office("school abcxyz 1 0 0;school z 0 0 50;appeals 9;child 9 0 prefers abcxyz z;"
            + repeat("child 50 0 prefers z;", 9) + "child 0 1 prefers abcxyz;child 8 0 prefers abcxyz;");
        Check.is("p56 empty", o.outputByte(0), -1);
        Check.is("p55 open", Check.printed(o, 0), "abcxyz:/");
        o.allocate();
        Check.is("p55 length", o.printSchool(0), 16);
        Check.is("p55 text", Check.output(o, 16), "abcxyz: 10/ 11 0");
        Check.is("p56 behind it", o.outputByte(16), -1);
        Check.is("p56 -1", o.outputByte(-1), -1);
        Check.is("p56 least", o.outputByte(Integer.MIN_VALUE), -1);
        Check.is("p56 most", o.outputByte(Integer.MAX_VALUE), -1);
        o.appeal(11, 0);
        o.appeal(0, 0);
        Check.is("p56 stays", Check.output(o, 16), "abcxyz: 10/ 11 0");
        Check.is("p55 appeals", Check.printed(o, 0), "abcxyz: 10 11* 0*/");
        o.undo();
        Check.is("p55 not undone", o.outputByte(17), (int) '/');
        o.saveState();
        Check.is("p55 shorter", Check.printed(o, 0), "abcxyz: 10 11*/ 0");
        Check.is("p56 what it had is gone", o.outputByte(17), -1);
        o.restoreState();
        Check.is("p55 not restored", o.outputByte(16), (int) '0');
        Check.fails("p55 school", INDEX, () -> o.printSchool(2));
        Check.fails("p55 school -1", INDEX, () -> o.printSchool(-1));
        Check.is("p55 throwing leaves it", o.outputByte(16), (int) '0');
        PlaceOffice full = Check.office("school abcdef 40 1 1;" + repeat("child1 1prefers abcdef;", 38));
        full.allocate();
        Check.is("p55 long", full.printSchool(0), 7 + 10 * 2 + 28 * 3 + 1);
        PlaceOffice starred = Check.office("school abcdef 0 1 1;appeals 9;" + repeat("child1 1prefers abcdef;", 37));
        starred.allocate();
        for (int child = 0; child < 10; child++) {
            starred.appeal(child, 0);
        }
        // Nine appeals are allowed, and 28 children wait.
        Check.is("p55 starred", starred.printSchool(0), 7 + 9 * 3 + 1 + 1 * 2 + 27 * 3);
    }

    private static void p57Undo() {
        PlaceOffice o = Check.office(TWO);
        Check.is("p57 none", o.undo(), -1);
        o.allocate();
        o.appeal(0, 0);
        o.addChild(1, 1, 0, true, 2);
        o.moveHome(2, 1, 0);
        o.setLate(true);
        o.setCapacity(1, 0);
        o.giveBack(2);
        o.withdraw(1);
        int nextLot = lot(0, 4);
        Check.is("p57 changes", o.count(11), 8);
        Check.is("p57 withdraw", o.undo(), 7);
        Check.is("p57 withdraw", o.child(1, 7) + " " + o.placeOf(1), "0 0");
        Check.is("p57 giveBack", o.undo(), 6);
        Check.is("p57 giveBack", o.child(2, 7) + " " + o.placeOf(2), "0 1");
        Check.is("p57 setCapacity", o.undo(), 5);
        Check.is("p57 setCapacity", o.school(1, 0), 1);
        Check.is("p57 setLate", o.undo(), 4);
        Check.is("p57 setLate", o.count(7), 0);
        Check.is("p57 moveHome", o.undo(), 3);
        Check.is("p57 moveHome", o.child(2, 0), 9);
        Check.is("p57 addChild", o.undo(), 2);
        Check.is("p57 addChild", o.count(1) + " " + o.count(5), "3 0");
        Check.is("p57 the same lot again", o.child(o.addChild(1, 1, 0, true, 2), 4), lot(0, 3));
        Check.is("p57 a new one", o.child(o.addChild(1, 1, 0, true, 2), 4), nextLot);
        Check.is("p57 late and care", o.count(5), 2);
        o.undo();
        o.undo();
        Check.is("p57 not late", o.count(5), 0);
        Check.is("p57 appeal", o.undo(), 1);
        Check.is("p57 appeal", o.placeOf(0) + " " + o.child(0, 8) + " " + o.school(0, 8), "-1 0 0");
        Check.is("p57 allocate", o.undo(), 0);
        Check.is("p57 allocate", o.count(8) + " " + o.count(9) + " " + o.placeOf(1) + " " + o.roundOf(1), "0 0 -1 0");
        Check.is("p57 none left", o.undo(), -1);
        for (int i = 0; i < 25; i++) {
            o.setCapacity(0, i);
            Check.is("p57 at most ten", o.count(11), Math.min(10, i + 1));
        }
        for (int i = 9; i >= 0; i--) {
            Check.is("p57 " + i, o.undo(), i);
            Check.is("p57 capacity " + i, o.school(0, 0), 14 + i);
        }
        Check.is("p57 no more", o.undo(), -1);
        Check.is("p57 no more", o.school(0, 0), 14);
    }

    private static void p57UndoneAllocationKeepsThePlaces() {
        PlaceOffice o = Check.office(TWO);
        o.allocate();
        o.appeal(0, 0);
        o.withdraw(2);
        o.allocate();
        Check.is("p57 allocated", o.placeOf(0) + " " + o.count(10), "1 0");
        o.undo();
        Check.is("p57 filled", o.count(10), 0);
        Check.is("p57 by appeal again", o.placeOf(0) + " " + o.child(0, 8) + " " + o.school(0, 8), "0 1 1");
    }

    private static void p58p59SavedState() {
        PlaceOffice o = Check.office(TWO);
        Check.fails("p59 none", STATE, o::restoreState);
        o.allocate();
        o.appeal(0, 0);
        Check.is("p58 children", o.saveState(), 3);
        Check.is("p58 no change", o.count(11), 2);
        o.addChild(1, 1, 0, false, 1);
        o.withdraw(0);
        o.moveHome(1, 50, 50);
        o.setCapacity(1, 7);
        o.setLate(true);
        Check.is("p59 children", o.restoreState(), 3);
        Check.is("p59 places", o.placeOf(0) + " " + o.child(0, 8) + " " + o.school(0, 8), "0 1 1");
        Check.is("p59 home", o.child(1, 0), 0);
        Check.is("p59 capacity", o.school(1, 0), 1);
        Check.is("p59 late", o.count(7), 0);
        Check.is("p59 rounds", o.count(9), 2);
        Check.is("p59 round", o.roundOf(1), 1);
        Check.is("p59 nothing to undo", o.count(11), 0);
        Check.is("p59 nothing to undo", o.undo(), -1);
        Check.is("p59 lot", o.child(o.addChild(1, 1, 0, false, 1), 4), lot(0, 3));
        o.undo();
        o.withdraw(2);
        Check.is("p59 stays saved", o.restoreState(), 3);
        Check.is("p59 again", o.child(2, 7), 0);
        o.addChild(1, 1, 9, false, 2);
        Check.is("p58 in place of it", o.saveState(), 4);
        Check.is("p58 undo goes on", o.undo(), 0);
        o.addChild(2, 2, 8, true, 1);
        Check.is("p59 the later one", o.restoreState(), 4);
        Check.is("p59 its child", o.child(3, 2) + " " + o.child(3, 3) + " " + o.preference(3, 0), "9 0 1");
        Check.load(o, "late 3;");
        int length = o.printSchool(0);
        Check.append(o, "late 0;");
        o.restoreState();
        Check.is("p59 error stays", o.errorCode() + " " + o.errorOffset(), "2 5");
        Check.is("p59 output stays", o.outputByte(length - 1) >= 0, true);
        Check.is("p59 input stays", o.truncateInput(7), true);
        Check.is("p59 load", o.loadOffice(), 0);
        Check.fails("p59 forgotten by a load", STATE, o::restoreState);
        PlaceOffice empty = new PlaceOffice();
        Check.is("p58 empty", empty.saveState(), 0);
        Check.is("p59 empty", empty.restoreState(), 0);
    }

    public static void main(String[] args) {
        p1NewObject();
        p2AppendInput();
        p3TruncateInput();
        p4LoadOffice();
        p4LoadForgetsAll();
        p5ErrorCode();
        p6ErrorOffset();
        setupSyntax();
        setupRanges();
        setupNames();
        setupMisplaced();
        p7Count();
        p8School();
        p9Rule();
        p10Child();
        p11Preference();
        p12p13Places();
        p14Meets();
        p15ClassOf();
        p16Distance();
        p17ComesFirst();
        p18p19Lists();
        p20WaitingPlace();
        p21p22Claims();
        p23p24Allocate();
        p25AddChild();
        p26Withdraw();
        p27GiveBack();
        p28MoveHome();
        p29SetCapacity();
        filling();
        p30Appeal();
        p31SetLate();
        p32LastHolder();
        p33p34Shares();
        p35p47Ways();
        p36Wanted();
        p37InZone();
        p38Together();
        p39Cutoff();
        p40Nearest();
        p41ChainOf();
        p42FreePlaces();
        p43p44Trades();
        p45HoldersOfClass();
        p46TriesOf();
        p48MostWaited();
        p49Siblings();
        p50ChangedByAllocation();
        p51PlaceWith();
        p52NeededCapacity();
        p53GainersWithout();
        p54BestByOrder();
        p55p56Output();
        p57Undo();
        p57UndoneAllocationKeepsThePlaces();
        p58p59SavedState();
        Check.finish("PromisesTest");
    }
}
