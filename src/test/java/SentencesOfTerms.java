import java.util.ArrayList;
import java.util.EnumSet;
import java.util.List;
import java.util.NoSuchElementException;

/** The sentences of "What it is" and of "Terms" ahead of the setup text, with the cases at their edges. */
final class SentencesOfTerms {
    static final Class<? extends Exception> INDEX = IndexOutOfBoundsException.class;
    static final Class<? extends Exception> ARGUMENT = IllegalArgumentException.class;
    static final Class<? extends Exception> STATE = IllegalStateException.class;
    static final Class<? extends Exception> ELEMENT = NoSuchElementException.class;

    /** One school, and 40 children that live at it. */
    static final String FULL = "school a 1 1 1;" + "child1 1prefers a;".repeat(40);
    static final String EIGHT = "school a 1 10 90;school b 2 11 91;school c 3 12 92;school d 4 13 93;"
        + "school e 5 14 94;school f 6 15 95;school g 7 16 96;school h 8 17 97;";

    private SentencesOfTerms() {
    }

    /** The lot of a child that is told as the one of this number: no int wraps around here. */
    static int lot(int seed, int child) {
        long x = seed;
        for (int i = 0; i <= child; i++) {
            x = (x * 1103515245L + 12345L) % 2147483648L;
        }
        return (int) (x / 65536 % 10000);
    }

    static String holders(PlaceOffice o, int school) {
        List<Integer> list = new ArrayList<>();
        for (int i = 0; i < o.school(school, 6); i++) {
            list.add(o.holder(school, i));
        }
        return list.toString();
    }

    static String waiters(PlaceOffice o, int school) {
        List<Integer> list = new ArrayList<>();
        for (int i = 0; i < o.school(school, 9); i++) {
            list.add(o.waiting(school, i));
        }
        return list.toString();
    }

    static String places(PlaceOffice o) {
        List<Integer> list = new ArrayList<>();
        for (int child = 0; child < o.count(1); child++) {
            list.add(o.placeOf(child));
        }
        return list.toString();
    }

    static PlaceOffice allocated(String text) {
        PlaceOffice o = Check.office(text);
        o.allocate();
        return o;
    }

    private static void sentencesWithoutAnEdge() {
        Doc.says("T", "An office that allocates school places: priorities by the rules of each school, deferred "
            + "acceptance in rounds, waiting lists, late applicants and moves, places given back, appeals that go "
            + "beyond the capacity, and questions about claims and about what would be.");
        Doc.says("N", "How the state is held inside the object is free, as are the speed of each call, the text of "
            + "toString and the behaviour of equals and hashCode.",
            "Use of one object from several threads at once is not promised to be safe.",
            "Nothing is promised beyond the answers and state changes described above, and nothing about an object "
            + "after its 512th call.");
    }

    private static void the512thCall() {
        Doc.says("T",
            "An object is used for at most 512 calls after it has been made; what later calls answer is free.");
        PlaceOffice o = new PlaceOffice();
        // 45 pieces, two calls that cut, and the load: 48 calls.
        Check.is("load", Check.load(o, FULL + " ".repeat(900 - FULL.length())), 40);
        for (int i = 0; i < 453; i++) {
            Check.is("change " + i, o.setCapacity(0, i % 41), i == 0 ? 1 : (i - 1) % 41);
        }
        Check.is("call 502", o.count(11), 10);
        for (int left = 9; left >= 0; left--) {
            Check.is("call " + (512 - left), o.undo(), left);
        }
        PlaceOffice p = Check.office(FULL);
        // 37 pieces, so that 40 calls are over behind the load.
        for (int call = 41; call <= 512; call++) {
            Check.is("dear call " + call, p.neededCapacity(call % 40, 0) > 0, true);
        }
    }

    private static void eightSchools() {
        Doc.says("T", "There are at most 8, numbered from 0 in the order in which they are told.");
        PlaceOffice o = Check.office(EIGHT);
        Check.is("schools", o.count(0), 8);
        for (int school = 0; school < 8; school++) {
            Check.is("school " + school, o.school(school, 0) + " " + o.school(school, 1) + " " + o.school(school, 2)
                + " " + Check.printed(o, school), school + 1 + " " + (10 + school) + " " + (90 + school) + " "
                + (char) ('a' + school) + ":/");
        }
        Check.fails("the ninth", INDEX, () -> o.school(8, 0));
        Check.is("the eighth one is wanted", o.preference(o.addChild(0, 0, 0, false, 8123), 0), 7);
        SentencesOfSetup.error(EIGHT + "school i 1 1 1;", 4, EIGHT.length());
        Check.is("seven", Check.office(EIGHT.substring(0, EIGHT.length() - 17)).count(0), 7);
        Check.is("one", Check.office("school z 0 0 0;").count(0), 1);
    }

    private static void rowsOfRules() {
        Doc.says("T", "A school has a name, a capacity, a place (x, y), a row of rules (care, sibling, zone; each at "
            + "most once, perhaps none), and perhaps a zone: a rectangle of places, its sides included.");
        String[] kinds = {"care", "sibling", "zone"};
        for (int code = 0; code < 27 * 4; code++) {
            int length = code / 27;
            int[] row = {code % 3, code / 3 % 3, code / 9 % 3};
            StringBuilder text = new StringBuilder("school a 5 1 1");
            int twice = -1;
            for (int i = 0; i < length; i++) {
                for (int k = 0; k < i && twice < 0; k++) {
                    twice = row[k] == row[i] ? text.length() + 1 : -1;
                }
                text.append(' ').append(kinds[row[i]]);
            }
            if (twice >= 0) {
                SentencesOfSetup.error(text + ";", 1, twice);
                continue;
            }
            PlaceOffice o = Check.office(text + ";");
            Check.is("rules of " + text, o.school(0, 3), length);
            for (int i = 0; i < length; i++) {
                Check.is("rule " + i + " of " + text, o.rule(0, i), row[i]);
            }
            Check.fails("behind the rules of " + text, ELEMENT, () -> o.rule(0, length));
        }
    }

    private static void sidesOfAZone() {
        Check.about("T a zone, its sides included");
        PlaceOffice o = Check.office("school a 1 0 0 zone;school b 1 0 0 zone;school c 1 0 0;zone a 2 3 5 4;"
            + "zone b 3 4 3 4;zone c 0 0 99 99;child 0 0 prefers a;");
        for (int x = 0; x < 8; x++) {
            for (int y = 2; y < 6; y++) {
                o.moveHome(0, x, y);
                Check.is("a at " + x + ", " + y, o.meets(0, 0, 2), x >= 2 && x <= 5 && (y == 3 || y == 4));
                Check.is("a point at " + x + ", " + y, o.meets(0, 1, 2), x == 3 && y == 4);
            }
        }
        for (int corner = 0; corner < 4; corner++) {
            o.moveHome(0, corner % 2 * 99, corner / 2 * 99);
            Check.is("the whole at corner " + corner, o.meets(0, 2, 2), true);
            Check.is("class without the rule at corner " + corner, o.classOf(0, 2), 0);
        }
        PlaceOffice edge = Check.office("school a 1 0 0 zone;zone a 99 99 99 99;child 99 99 prefers a;"
            + "child 98 99 prefers a;child 99 98 prefers a;");
        Check.is("the last place", edge.meets(0, 0, 2) + " " + edge.meets(1, 0, 2) + " " + edge.meets(2, 0, 2),
            "true false false");
    }

    private static void fortyChildren() {
        Doc.says("T", "There are at most 40, numbered from 0 in the order in which they are told or added.");
        PlaceOffice o = Check.office("school a 1 1 1;" + "child1 1prefers a;".repeat(38) + "child 7 8 prefers a;");
        Check.is("told last", o.child(38, 0) + " " + o.child(38, 1), "7 8");
        Check.is("added", o.addChild(9, 10, 0, false, 1), 39);
        Check.is("added last", o.child(39, 0) + " " + o.child(39, 1), "9 10");
        Check.fails("the 41st, added", STATE, () -> o.addChild(0, 0, 0, false, 1));
        Check.fails("number 40", INDEX, () -> o.child(40, 0));
        SentencesOfSetup.error(FULL + "child1 1prefers a;", 4, FULL.length());
        PlaceOffice all = Check.office("school a 1 1 1;");
        for (int child = 0; child < 40; child++) {
            Check.is("added one by one", all.addChild(child, 0, 0, false, 1), child);
        }
        Check.is("none is lost", all.count(1) + " " + all.child(0, 0) + " " + all.child(39, 0), "40 0 39");
        Check.fails("the 41st of these", STATE, () -> all.addChild(0, 0, 0, false, 1));
        all.undo();
        Check.is("room again", all.addChild(77, 0, 0, false, 1), 39);
    }

    private static void whatAChildHas() {
        Doc.says("T", "A child has a home (x, y), a family (1 to 99, or 0 for none), perhaps a need of care, a lot, "
            + "and preferences: 1 to 4 different schools, the most wanted one first.");
        PlaceOffice o = Check.office("school a 1 0 0;school b 1 0 0;school c 1 0 0;school d 1 0 0;"
            + "child 0 99 family 1 prefers d;child 99 0 care family 99 prefers d c b a;child 5 6 care prefers b a;");
        String[] due = {"0 99 1 0 1", "99 0 99 1 4", "5 6 0 1 2"};
        for (int child = 0; child < 3; child++) {
            Check.is("child " + child, o.child(child, 0) + " " + o.child(child, 1) + " " + o.child(child, 2) + " "
                + o.child(child, 3) + " " + o.child(child, 5), due[child]);
        }
        Check.is("four of them", "" + o.preference(1, 0) + o.preference(1, 1) + o.preference(1, 2)
            + o.preference(1, 3), "3210");
        Check.is("the family 0, added", o.child(o.addChild(0, 0, 0, false, 1), 2), 0);
        Check.is("the family 99, added", o.child(o.addChild(0, 0, 99, false, 1), 2), 99);
        Check.is("the family 1, added", o.child(o.addChild(0, 0, 1, false, 4123), 2), 1);
    }

    private static void lateChildren() {
        Doc.says("T",
            "A child is late if it was added in the state allocated (see below), also behind later allocations.");
        PlaceOffice o = Check.office("school a 1 0 0;child 5 0 prefers a;");
        Check.is("added in the open state", o.child(o.addChild(0, 0, 0, false, 1), 6), 0);
        o.saveState();
        o.allocate();
        Check.is("told before", o.child(0, 6) + " " + o.child(1, 6), "0 0");
        Check.is("added in the state allocated", o.child(o.addChild(0, 0, 0, false, 1), 6), 1);
        o.allocate();
        Check.is("behind a later allocation", o.child(2, 6), 1);
        Check.is("the others still not", o.child(0, 6) + " " + o.child(1, 6), "0 0");
        Check.is("added behind the second", o.child(o.addChild(0, 0, 0, false, 1), 6), 1);
        Check.is("late ones", o.count(5), 2);
        o.withdraw(2);
        Check.is("also if withdrawn", o.child(2, 6) + " " + o.count(5), "1 2");
        for (int i = 0; i < 5; i++) {
            o.undo();
        }
        Check.is("the allocation is undone", o.count(8) + " " + o.count(1), "0 2");
        Check.is("added then", o.child(o.addChild(0, 0, 0, false, 1), 6), 0);
        o.allocate();
        o.restoreState();
        Check.is("added in a restored open state", o.child(o.addChild(0, 0, 0, false, 1), 6), 0);
        PlaceOffice empty = new PlaceOffice();
        empty.allocate();
        Check.load(empty, "school a 1 0 0;child 1 1 prefers a;");
        Check.is("told by a load in the state allocated", empty.child(0, 6), 0);
        Check.is("added behind that load", empty.child(empty.addChild(0, 0, 0, false, 1), 6), 0);
    }

    private static final String KEPT = "appeals 1;late 1;school a 2 0 0 zone;school b 1 9 0;zone a 0 0 50 50;pupil 5 a;"
        + "child 2 0 family 5 prefers b a;child 3 0 family 5 prefers a b;child 4 0 prefers a;";
    /** Children that would come first everywhere. */
    private static final String EXTRA = "child 0 0 care family 5 prefers a b;child 9 0 care family 5 prefers b a;"
        + "child 0 0 family 7 prefers a;";

    private static void withdrawnChildren() {
        Doc.says("T", "A child can be withdrawn; then it has no place, waits nowhere, and is left aside everywhere, "
            + "but keeps its number.");
        PlaceOffice o = Check.office("school a 1 0 0;school b 1 9 0;child 1 0 prefers a b;child 2 0 prefers b a;"
            + "child 3 0 prefers a b;");
        o.allocate();
        // 2 is nearer to b than 1, that then has no place until 0 leaves a.
        o.withdraw(0);
        Check.is("no place", o.placeOf(0), -1);
        Check.is("waits nowhere", o.waitingPlace(0, 0) + " " + o.waitingPlace(0, 1), "-1 -1");
        Check.is("on no list", holders(o, 0) + waiters(o, 0) + holders(o, 1) + waiters(o, 1), "[1][2][2][1]");
        Check.is("keeps its number", o.child(0, 7) + " " + o.child(0, 0) + " " + o.count(1), "1 1 3");
        Check.is("the next one", o.addChild(0, 0, 0, false, 1), 3);
        Check.is("keeps its preferences", o.child(0, 5) + " " + o.preference(0, 1), "2 1");
        // Those that are withdrawn are told last, so that the others have the same lots without them.
        String due = Whole.answers(settled(KEPT, 0, false), 3);
        Check.is("withdrawn ahead of the allocation", Whole.answers(settled(KEPT + EXTRA, 3, false), 3), due);
        Check.is("withdrawn between two allocations", Whole.answers(settled(KEPT + EXTRA, 3, true), 3), due);
    }

    private static PlaceOffice settled(String text, int extra, boolean between) {
        PlaceOffice o = Check.office(text);
        if (between) {
            o.allocate();
        }
        for (int child = 3; child < 3 + extra; child++) {
            o.withdraw(child);
        }
        o.allocate();
        o.setCapacity(0, 1);
        o.moveHome(1, 30, 0);
        o.setCapacity(1, 2);
        return o;
    }

    private static void twentyPupils() {
        Doc.says("T", "There are at most 20: a pupil belongs to a family and a school, and is no child of this office.");
        String text = "school a 9 0 0 sibling;school b 9 0 0 sibling;" + "pupil 7 a;".repeat(19);
        PlaceOffice o = Check.office(text + "pupil 9 b;child 0 0 family 9 prefers a;child 0 0 family 7 prefers a;");
        Check.is("twenty", o.count(2) + " " + o.school(0, 5) + " " + o.school(1, 5), "20 19 1");
        Check.is("no children", o.count(1), 2);
        Check.is("the twentieth is of its family and school", o.meets(0, 1, 1) + " " + o.meets(0, 0, 1), "true false");
        Check.is("and the others of theirs", o.meets(1, 1, 1) + " " + o.meets(1, 0, 1), "false true");
        Check.is("no siblings among the children", o.siblings(0) + o.siblings(1), 0L);
        o.allocate();
        Check.is("they take no place", o.school(0, 6) + " " + o.freePlaces() + " " + o.together(), "2 16 0");
        SentencesOfSetup.error(text + "pupil 9 b;pupil 1 a;", 4, text.length() + 10);
    }

    private static void meetingARule() {
        Doc.says("T", "A child meets a rule of a school: care, if it has a need of care; sibling, if its family is not "
            + "0 and there is a pupil of this family and this school; zone, if its home lies in the zone of the school.");
        PlaceOffice o = Check.office("school a 1 0 0;school b 1 0 0;school c 1 0 0;zone b 10 10 20 20;pupil 1 a;"
            + "pupil 99 b;pupil 98 a;child 10 20 care family 1 prefers a;child 20 10 family 99 prefers a;"
            + "child 9 15 family 2 prefers a;child 15 21 prefers a;");
        String[] due = {"110|101|100", "000|011|000", "000|000|000", "000|000|000"};
        for (int child = 0; child < 4; child++) {
            StringBuilder s = new StringBuilder();
            for (int i = 0; i < 9; i++) {
                s.append(i == 3 || i == 6 ? "|" : "").append(o.meets(child, i / 3, i % 3) ? 1 : 0);
            }
            Check.is("child " + child, s.toString(), due[child]);
        }
        Check.is("a pupil of another school of the family", o.meets(1, 0, 1), false);
        Check.is("added without a family", o.meets(o.addChild(0, 0, 0, true, 1), 0, 1), false);
        Check.is("added with one", o.meets(o.addChild(0, 0, 98, true, 1), 0, 1), true);
    }

    private static void classes() {
        Doc.says("T", "The class of a child at a school is the number of rules ahead of the first one that it meets (so 0 "
            + "is the best class); the number of all rules of the school if it meets none.");
        PlaceOffice o = Check.office("school a 1 0 0;school b 1 0 0 zone;school c 1 0 0 zone care;"
            + "school d 1 0 0 sibling zone care;school e 1 0 0 care zone sibling;zone b 0 0 0 0;zone c 0 0 0 0;"
            + "zone d 0 0 0 0;zone e 0 0 0 0;pupil 3 d;pupil 3 e;child 5 5 prefers a;child 0 0 prefers a;"
            + "child 5 5 care prefers a;child 5 5 family 3 prefers a;child 0 0 care family 3 prefers a;");
        String[] due = {"01233", "00011", "01120", "01202", "00000"};
        for (int child = 0; child < 5; child++) {
            StringBuilder s = new StringBuilder();
            for (int school = 0; school < 5; school++) {
                s.append(o.classOf(child, school));
            }
            Check.is("child " + child, s.toString(), due[child]);
        }
    }

    private static void distances() {
        Doc.says("T", "The distance is dx * dx + dy * dy from its home to the school.");
        PlaceOffice o = Check.office("school a 1 0 0;school b 1 99 99;school c 1 50 40;child 0 0 prefers a;"
            + "child 99 99 prefers a;child 49 42 prefers a;child 53 39 prefers a;");
        int[][] due = {{0, 19602, 4100}, {19602, 0, 5882}, {4165, 5749, 5}, {4330, 5716, 10}};
        for (int child = 0; child < 4; child++) {
            for (int school = 0; school < 3; school++) {
                Check.is(child + " to " + school, o.distance(child, school), due[child][school]);
            }
        }
    }

    private static void ahead(String what, PlaceOffice o, int child, int other) {
        Check.is(what, o.comesFirst(0, child, other) + " " + o.comesFirst(0, other, child), "true false");
    }

    private static void whoComesFirst() {
        Doc.says("T", "Of two children, the one that comes first at a school is the one that is not late (only if the "
            + "setting late is 1, and the other one is late), then the one with the smaller class, then with the smaller "
            + "distance, then with the smaller lot, then with the smaller number.");
        // 0 is the last one of those that are not late; 1 and 2 are late.
        PlaceOffice o = allocated("school a 1 0 0 care sibling zone;child 99 99 prefers a;");
        o.addChild(0, 0, 0, true, 1);
        o.addChild(0, 1, 0, true, 1);
        ahead("late 0: by the class", o, 1, 0);
        o.setLate(true);
        ahead("late 1: the one that is not late", o, 0, 1);
        ahead("late 1: both late, by the distance", o, 1, 2);
        o.setLate(false);
        ahead("late 0 again", o, 1, 0);
        PlaceOffice p = Check.office("late 1;school a 1 0 0 care sibling zone;pupil 2 a;zone a 0 0 0 0;"
            + "child 99 99 care prefers a;child 0 1 family 2 prefers a;child 99 99 family 2 prefers a;"
            + "child 0 0 prefers a;child 0 1 prefers a;child 0 1 prefers a;");
        ahead("class 0 and the farthest, class 1 and near", p, 0, 1);
        ahead("class 1 and far, class 2 at the school", p, 2, 3);
        ahead("class 2, class 3", p, 3, 4);
        ahead("distances 1 and 19602", p, 1, 2);
        int low = lot(0, 4) < lot(0, 5) ? 4 : 5;
        ahead("late 1, none is late: by the lot", p, low, 9 - low);
    }

    private static void nearlySameChildren() {
        Check.about("T who comes first, by lots and numbers");
        for (int seed = 0; seed < 60; seed++) {
            PlaceOffice o = Check.office("seed " + seed + ";school a 1 0 0;child 3 4 prefers a;child 5 0 prefers a;"
                + "child 4 3 prefers a;child 0 6 prefers a;");
            for (int i = 0; i < 3; i++) {
                for (int k = 0; k < 3; k++) {
                    Check.is("seed " + seed + ": same distance", o.comesFirst(0, i, k), lot(seed, i) < lot(seed, k));
                }
                ahead("seed " + seed + ": distances 25 and 36", o, i, 3);
            }
        }
        int[] same = sameLots();
        PlaceOffice o = Check.office("seed " + same[0] + ";" + FULL);
        Check.is("lots", o.child(same[1], 4), o.child(same[2], 4));
        ahead("same lot: the smaller number", o, same[1], same[2]);
        o.moveHome(same[1], 1, 2);
        ahead("distance ahead of the number", o, same[2], same[1]);
    }

    /** Lots that differ by one or not at all: the greater part of a number must not spill into the lesser one. */
    private static void nearlySameLots() {
        Check.about("T who comes first, by lots that are nearly the same");
        int found = 0;
        for (int seed = 0; seed < 1000; seed++) {
            PlaceOffice o = null;
            int used = 0;
            for (int a = 0; a < 40; a++) {
                for (int b = a + 1; b < 40; b++) {
                    int difference = lot(seed, a) - lot(seed, b);
                    if (Math.abs(difference) <= 1) {
                        o = o == null ? Check.office("seed " + seed + ";" + FULL) : o;
                        used++;
                        ahead("seed " + seed + ": " + a + " and " + b, o, difference <= 0 ? a : b,
                            difference <= 0 ? b : a);
                    }
                }
            }
            found += used;
        }
        Check.is("there are such lots", found > 100, true);
    }

    /** A seed with which two of 40 children have the same lot, and these children. */
    static int[] sameLots() {
        for (int seed = 0; seed < 1000; seed++) {
            for (int a = 0; a < 40; a++) {
                for (int b = a + 1; b < 40; b++) {
                    if (lot(seed, a) == lot(seed, b)) {
                        return new int[] {seed, a, b};
                    }
                }
            }
        }
        throw new IllegalStateException("no lots are the same");
    }

    private static void lots() {
        Doc.says("T", "The state x is the seed at first.", "Whenever a child is told or added, x becomes (x * 1103515245 + "
            + "12345) with the highest bit cleared (in ints); its lot is (x / 65536) % 10000.");
        for (int seed : new int[] {0, 1, 2, 500, 998, 999}) {
            PlaceOffice o = Check.office("seed " + seed + ";" + FULL);
            for (int child = 0; child < 40; child++) {
                Check.is("seed " + seed + ", child " + child, o.child(child, 4), lot(seed, child));
            }
        }
        // 12345 / 65536 is 0, and 1103527590 / 65536 is 16838.
        Check.is("without a seed", Check.office("school a 1 1 1;child 1 1 prefers a;").child(0, 4), 0);
        Check.is("the seed 1", Check.office("seed 1;school a 1 1 1;child 1 1 prefers a;").child(0, 4), 6838);
        PlaceOffice o = Check.office("seed 3;school a 1 1 1;child 1 1 prefers a;");
        Check.is("added", o.child(o.addChild(1, 1, 0, false, 1), 4), lot(3, 1));
        Check.fails("refused", ARGUMENT, () -> o.addChild(1, 1, 0, false, 2));
        o.withdraw(1);
        o.allocate();
        o.moveHome(0, 2, 2);
        Check.is("other calls take no lot", o.child(o.addChild(1, 1, 0, false, 1), 4), lot(3, 2));
        o.undo();
        Check.is("undone, it is drawn again", o.child(o.addChild(1, 1, 0, false, 1), 4), lot(3, 2));
        Check.is("and goes on", o.child(o.addChild(1, 1, 0, false, 1), 4), lot(3, 3));
        o.saveState();
        Check.is("after the saved state", o.child(o.addChild(1, 1, 0, false, 1), 4), lot(3, 4));
        o.restoreState();
        Check.is("restored, it is drawn again", o.child(o.addChild(1, 1, 0, false, 1), 4), lot(3, 4));
        Check.load(o, "late 7;");
        Check.is("an error draws none", o.child(o.addChild(1, 1, 0, false, 1), 4), lot(3, 5));
        Check.load(o, "school a 1 1 1;child 1 1 prefers a;");
        Check.is("a load begins anew", o.child(0, 4), lot(0, 0));
    }

    private static void openAtFirst() {
        Doc.says("T", "At first no child has a place, and the state is \"open\".");
        PlaceOffice o = Check.office("school a 40 0 0;child 1 1 prefers a;child 2 2 prefers a;");
        Check.is("open", o.count(8) + " " + o.count(4) + " " + places(o), "0 0 [-1, -1]");
        Check.is("nobody waits", o.school(0, 9) + " " + o.mostWaited(), "0 -1");
        o.setCapacity(0, 1);
        o.addChild(1, 1, 0, false, 1);
        o.moveHome(1, 3, 3);
        o.setLate(true);
        o.withdraw(1);
        Check.is("still open behind changes", o.count(8) + " " + o.count(4) + " " + o.count(10), "0 0 0");
    }

    private static void allocationTakesBack() {
        Doc.says("T", "An allocation takes all places back and makes the state \"allocated\".");
        PlaceOffice o = Check.office("school a 1 0 0;school b 1 9 0;appeals 1;child 1 0 prefers a b;"
            + "child 2 0 prefers a b;child 3 0 prefers a b;");
        o.allocate();
        Check.is("allocated", o.count(8) + " " + places(o), "1 [0, -1, 1]");
        o.appeal(1, 0);
        o.setCapacity(1, 0);
        Check.is("beyond the capacities", places(o), "[0, 0, 1]");
        o.moveHome(0, 0, 50);
        o.allocate();
        Check.is("all are taken back", places(o), "[-1, 0, -1]");
        Check.is("still allocated", o.count(8), 1);
        o.setCapacity(0, 0);
        o.allocate();
        Check.is("no capacity at all", places(o) + o.count(8), "[-1, -1, -1]1");
    }

    private static void rounds() {
        Doc.says("T", "It goes on in rounds: in a round each child without a place, that has preferences which it has not "
            + "tried yet in this allocation, tries the first one of these; then each school keeps, of the children that hold "
            + "a place there and those that try it in this round, as many as its capacity, those that come first; the "
            + "others have no place.",
            "The allocation ends when no child tries anything (this last round is not counted).");
        Check.is("no children", Check.office("school a 1 0 0;").allocate(), 0);
        Check.is("no schools", new PlaceOffice().allocate(), 0);
        PlaceOffice none = Check.office("school a 0 0 0;school b 0 0 0;school c 0 0 0;school d 0 0 0;"
            + "child 1 1 prefers a b c d;child 1 1 prefers d;");
        Check.is("four preferences, no places", none.allocate() + places(none), "4[-1, -1]");
        Check.is("again, from the first one", none.allocate(), 4);
        none.withdraw(0);
        Check.is("without that child", none.allocate(), 1);
        none.withdraw(1);
        Check.is("all are withdrawn", none.allocate(), 0);
        PlaceOffice just = Check.office("school a 2 0 0;child 3 0 prefers a;child 1 0 prefers a;child 2 0 prefers a;");
        Check.is("a capacity of all but one", just.allocate() + places(just), "1[-1, 0, 0]");
        just.setCapacity(0, 3);
        Check.is("a capacity of all", just.allocate() + places(just), "1[0, 0, 0]");
        just.setCapacity(0, 40);
        Check.is("more than all", just.allocate() + places(just), "1[0, 0, 0]");
        // Round 1: 0 to a, 1 and 2 to b, that keeps 2. Round 2: 1 to a, that keeps 1. Round 3: 0 to b, that
        // keeps 0. Round 4: 2 to a, in vain. Round 5: 2 to c.
        PlaceOffice pushed = Check.office("school a 1 0 0;school b 1 50 0;school c 1 99 0;child 30 0 prefers a b;"
            + "child 20 0 prefers b a;child 25 0 prefers b a c;");
        Check.is("pushed out", pushed.allocate() + places(pushed), "5[1, 0, 2]");
        Check.is("rounds of these", pushed.roundOf(0) + " " + pushed.roundOf(1) + " " + pushed.roundOf(2), "3 2 5");
        PlaceOffice most = Check.office(FULL);
        Check.is("forty for one place", most.allocate() + " " + most.count(4) + " " + most.school(0, 9), "1 1 39");
        most.setCapacity(0, 40);
        Check.is("forty for forty", most.allocate() + " " + most.count(4) + " " + most.school(0, 9), "1 40 0");
    }

    private static void allocationForgetsAppeals() {
        Doc.says("T", "It also forgets all successful appeals.");
        PlaceOffice o = allocated("school a 1 0 0;appeals 1;child 1 0 prefers a;child 2 0 prefers a;child 3 0 prefers a;");
        Check.is("allowed", o.appeal(1, 0), 1);
        Check.is("no more", o.appeal(2, 0), 0);
        o.allocate();
        Check.is("no place by it", o.placeOf(1) + " " + o.child(1, 8) + " " + o.school(0, 7) + " " + o.school(0, 8),
            "-1 0 0 0");
        Check.is("allowed again", o.appeal(2, 0), 1);
        o.moveHome(1, 0, 0);
        o.withdraw(2);
        o.allocate();
        Check.is("its place is none by appeal", o.placeOf(1) + " " + o.child(1, 8) + " " + o.school(0, 8), "0 0 0");
        o.undo();
        Check.is("undone, it is remembered", o.school(0, 8), 1);
    }

    private static void waitingChildren() {
        Doc.says("T", "In the state allocated a child waits for each school that it prefers to the one where it has a place; "
            + "without a place, for all its preferences.",
            "The waiting list of a school has these children in the order in which they come first.");
        PlaceOffice o = Check.office("school a 1 0 0;school b 1 0 0;school c 1 0 0;school d 0 0 0;"
            + "child 1 0 prefers a b c d;child 2 0 prefers a b c d;child 3 0 prefers a b c d;child 4 0 prefers a b c d;"
            + "child 0 0 prefers d;");
        Check.is("open", o.waitingPlace(0, 0) + " " + o.school(3, 9), "-1 0");
        o.allocate();
        Check.is("places", places(o), "[0, 1, 2, -1, -1]");
        Check.is("a", waiters(o, 0), "[1, 2, 3]");
        Check.is("b", waiters(o, 1), "[2, 3]");
        Check.is("c", waiters(o, 2), "[3]");
        Check.is("d, no preference of 4 but this", waiters(o, 3), "[4, 3]");
        o.moveHome(3, 0, 0);
        int low = lot(0, 3) < lot(0, 4) ? 3 : 4;
        Check.is("d, by the lot", waiters(o, 3), "[" + low + ", " + (7 - low) + "]");
        Check.is("a, moved ahead", waiters(o, 0), "[3, 1, 2]");
        o.setLate(true);
        o.addChild(0, 0, 0, true, 1);
        Check.is("a, the late one", waiters(o, 0), "[3, 1, 2, 5]");
        Check.is("its place on the list", o.waitingPlace(5, 0), 3);
    }

    private static void filling() {
        Doc.says("T", "At the end of each change in the state allocated (but the allocation itself), places are filled: as "
            + "long as some school has fewer children than its capacity and a child waiting, the first one on the waiting "
            + "list of the first such school (by number) gets a place there, and leaves its old one.");
        String text = "school a 1 0 0;school b 1 0 0;school c 1 0 0;appeals 9;child 1 0 prefers a b c;"
            + "child 2 0 prefers a b c;child 3 0 prefers a b c;child 4 0 prefers a b c;";
        PlaceOffice open = Check.office(text);
        open.withdraw(0);
        open.setCapacity(0, 4);
        Check.is("not in the open state", open.count(4) + " " + open.count(10), "0 0");
        PlaceOffice o = allocated(text);
        Check.is("not by an allocation", places(o) + o.count(10), "[0, 1, 2, -1]0");
        o.withdraw(0);
        Check.is("withdraw: 1 to a, 2 to b, 3 to c", places(o) + o.count(10), "[-1, 0, 1, 2]3");
        o.undo();
        o.giveBack(1);
        Check.is("giveBack: 2 to b, 3 to c", places(o) + o.count(10), "[0, -1, 1, 2]2");
        o.undo();
        o.setCapacity(1, 2);
        Check.is("setCapacity: 2 to b, 3 to c", places(o) + o.count(10), "[0, 1, 1, 2]2");
        o.undo();
        o.appeal(1, 0);
        Check.is("appeal: 2 to b, 3 to c", places(o) + o.count(10), "[0, 0, 1, 2]2");
        o.undo();
        o.setCapacity(2, 3);
        Check.is("setCapacity: 3 to c", places(o) + o.count(10), "[0, 1, 2, 2]1");
        o.addChild(9, 9, 0, false, 132);
        Check.is("addChild: to c", places(o) + o.count(10), "[0, 1, 2, 2, 2]2");
        o.addChild(0, 0, 0, false, 132);
        Check.is("addChild: c is full", places(o) + o.count(10), "[0, 1, 2, 2, 2, -1]2");
        Check.is("a place that nobody waits for", o.withdraw(2) + " " + o.count(10), "2 3");
        o.moveHome(5, 0, 50);
        o.setLate(true);
        Check.is("moveHome and setLate free none", places(o) + o.count(10), "[0, 1, -1, 2, 2, 2]3");
    }

    private static void fillingBySchool() {
        Check.about("T filling, the first such school by number");
        // Behind the change a and b have a place and waiting children; b's first one is 0, that then leaves it for a
        // no more, as a's is filled first.
        PlaceOffice o = allocated("school a 0 0 0;school b 1 0 0;school c 1 50 0;child 1 0 prefers a b;"
            + "child 2 0 prefers b;child 3 0 prefers b c;");
        Check.is("places", places(o), "[1, -1, 2]");
        o.setCapacity(0, 1);
        Check.is("a's first one leaves b to 1", places(o) + o.count(10), "[0, 1, 2]2");
        // A school beyond its capacity is filled when it has fewer children than that, not before.
        PlaceOffice p = allocated("school a 3 0 0;child 1 0 prefers a;child 2 0 prefers a;child 3 0 prefers a;"
            + "child 4 0 prefers a;");
        p.setCapacity(0, 2);
        Check.is("keep it", places(p), "[0, 0, 0, -1]");
        p.withdraw(0);
        Check.is("as many as the capacity", places(p) + p.count(10), "[-1, 0, 0, -1]0");
        p.withdraw(1);
        Check.is("one fewer", places(p) + p.count(10), "[-1, -1, 0, 0]1");
        PlaceOffice full = allocated("school a 0 1 1;" + "child1 1prefers a;".repeat(40));
        full.setCapacity(0, 40);
        Check.is("forty at once", full.count(4) + " " + full.count(10), "40 40");
        full.setCapacity(0, 0);
        full.withdraw(7);
        Check.is("none", full.count(4) + " " + full.count(10), "39 40");
    }

    private static void fillingLongest() {
        Check.about("T filling, the longest way");
        // Each of 40 children goes from d to c to b to a: 120 places are filled behind the first 40.
        PlaceOffice o = Check.office("school a 0 1 1;school b 0 1 1;school c 0 1 1;school d 0 1 1;"
            + "child1 1prefers a b c d;".repeat(34));
        for (int child = 34; child < 40; child++) {
            o.addChild(1, 1, 0, false, 1234);
        }
        o.allocate();
        for (int school = 3; school >= 0; school--) {
            o.setCapacity(school, 40);
            Check.is("all of them move", o.school(school, 6) + " " + o.count(10), "40 " + 40 * (4 - school));
        }
    }

    private static void claims() {
        Doc.says("T", "A child has a claim to a school if it waits for it, and some child that has a place there, but not by "
            + "an appeal, comes behind it.",
            "(Behind an allocation no child has a claim; later ones, through moves and settings, stay until they appeal.)");
        PlaceOffice o = Check.office("school a 2 0 0;school b 1 50 0;school c 0 0 0;appeals 3;child 1 0 prefers a b;"
            + "child 5 0 prefers a b;child 6 0 prefers a b c;child 7 0 prefers a c;");
        Check.is("open", o.claims(), 0);
        o.allocate();
        Check.is("behind an allocation", places(o) + o.claims(), "[0, 0, 1, -1]0");
        o.moveHome(1, 6, 1);
        Check.is("one child of two comes behind", o.hasClaim(2, 0) + " " + o.hasClaim(3, 0) + " " + o.claims(),
            "true false 1");
        Check.is("holders have none", o.hasClaim(0, 0) + " " + o.hasClaim(1, 0) + " " + o.hasClaim(2, 1),
            "false false false");
        Check.is("nobody is there", o.hasClaim(3, 2), false);
        o.setLate(true);
        o.setCapacity(2, 0);
        o.withdraw(0);
        // A place was free, and 2 got it; then 3 goes to b? It does not want b.
        Check.is("filled by its first one", places(o) + o.claims(), "[-1, 0, 0, -1]0");
        o.moveHome(2, 9, 0);
        Check.is("a claim of 3", o.hasClaim(3, 0) + " " + o.claims(), "true 1");
        o.moveHome(3, 8, 0);
        Check.is("it stays while one comes behind", o.hasClaim(3, 0), true);
        Check.is("it appeals", o.appeal(3, 0), 2);
        Check.is("then it has none", o.hasClaim(3, 0) + " " + o.claims(), "false 0");
    }

    private static void claimsBeyondAppeals() {
        Check.about("T claims, a child by an appeal is not looked at");
        PlaceOffice o = allocated("school a 1 0 0;appeals 1;late 1;child 1 0 prefers a;child 9 0 prefers a;"
            + "child 5 0 prefers a;");
        Check.is("by appeal", o.appeal(1, 0), 1);
        Check.is("behind it comes only a place by appeal", o.hasClaim(2, 0) + " " + o.claims(), "false 0");
        o.moveHome(0, 6, 0);
        Check.is("and now another one", o.hasClaim(2, 0), true);
        o.moveHome(0, 1, 0);
        Check.is("and no more", o.hasClaim(2, 0), false);
        int late = o.addChild(0, 0, 0, false, 1);
        Check.is("late, and near", o.hasClaim(late, 0), false);
        o.setLate(false);
        Check.is("by a setting", o.hasClaim(late, 0) + " " + o.claims(), "true 1");
        o.setLate(true);
        Check.is("by the other setting", o.claims(), 0);
        o.moveHome(2, 1, 0);
        boolean before = lot(0, 2) < lot(0, 0);
        Check.is("the same distance, by the lot", o.hasClaim(2, 0), before);
    }

    private static void appeals() {
        Doc.says("T", "A child that waits for a school can appeal.",
            "If it has a claim to it, the appeal is allowed; otherwise it is allowed as long as fewer appeals without a claim "
            + "were allowed for this school than the setting appeals says, and refused otherwise.");
        String one = "school a 0 0 0;school b 0 0 0;" + "child1 1prefers a b;".repeat(12);
        for (int setting = 0; setting < 10; setting++) {
            PlaceOffice o = allocated("appeals " + setting + ";" + one);
            for (int child = 0; child < 11; child++) {
                Check.is("setting " + setting + ", appeal " + child, o.appeal(child, 0), child < setting ? 1 : 0);
            }
            Check.is("setting " + setting + ", allowed", o.school(0, 8) + " " + o.school(0, 7) + " " + o.school(1, 8),
                setting + " " + setting + " 0");
            Check.is("setting " + setting + ", the other school", o.appeal(11, 1), setting > 0 ? 1 : 0);
        }
        Check.is("without the setting", allocated(one).appeal(0, 0), 0);
        PlaceOffice o = allocated("appeals 1;school a 1 0 0;child 1 0 prefers a;child 2 0 prefers a;child 3 0 prefers a;"
            + "child 4 0 prefers a;child 5 0 prefers a;");
        o.moveHome(0, 9, 0);
        Check.is("by a claim", o.appeal(1, 0), 2);
        Check.is("that is not counted", o.school(0, 8), 0);
        o.moveHome(0, 1, 0);
        Check.is("without one", o.appeal(2, 0), 1);
        Check.is("no more", o.appeal(3, 0), 0);
        Check.is("a refused one is not counted", o.school(0, 8), 1);
        o.moveHome(0, 9, 0);
        Check.is("by a claim, beyond the setting", o.appeal(3, 0), 2);
        o.withdraw(2);
        o.moveHome(0, 1, 0);
        Check.is("one that left its place counts on", o.appeal(4, 0), 0);
        Check.fails("a child that holds it", STATE, () -> o.appeal(0, 0));
    }

    private static void placesByAppeal() {
        Doc.says("T", "A child whose appeal is allowed gets a place at the school by appeal, whatever its capacity, and "
            + "leaves its old one.", "If it leaves this place later, it is no place by appeal any more.");
        String text = "school a 0 0 0;school b 0 0 0;school c 1 0 0;appeals 9;child 1 0 prefers a b c;"
            + "child 2 0 prefers a c;";
        PlaceOffice o = allocated(text);
        Check.is("to b, of capacity 0", o.appeal(0, 1) + places(o) + o.child(0, 8), "1[1, 2]1");
        Check.is("its old one is filled", o.count(10) + " " + o.school(2, 6), "1 1");
        Check.is("on to a", o.appeal(0, 0) + places(o) + o.child(0, 8), "1[0, 2]1");
        Check.is("b is left", o.school(1, 6) + " " + o.school(1, 7) + " " + o.school(0, 7), "0 0 1");
        Check.is("given back", o.giveBack(0) + " " + o.child(0, 8) + " " + o.school(0, 7), "0 0 0");
        PlaceOffice p = allocated(text);
        p.appeal(0, 1);
        p.setCapacity(0, 1);
        Check.is("left by filling", places(p) + p.child(0, 8) + p.school(0, 7) + p.school(1, 7), "[0, 2]000");
        PlaceOffice q = allocated(text);
        q.appeal(0, 1);
        q.setCapacity(1, 5);
        Check.is("a capacity that would do leaves it one by appeal", q.child(0, 8) + " " + q.school(1, 7), "1 1");
        q.withdraw(0);
        Check.is("withdrawn", q.child(0, 8) + " " + q.school(1, 7), "0 0");
        PlaceOffice r = allocated(text);
        r.appeal(0, 1);
        r.setCapacity(1, 1);
        r.allocate();
        Check.is("allocated anew", places(r) + r.child(0, 8), "[1, 2]0");
        PlaceOffice s = allocated(text);
        s.appeal(0, 1);
        s.appeal(1, 0);
        Check.is("refused by none, beyond all capacities", places(s) + s.freePlaces(), "[1, 0]1");
    }

    private static void tenChanges() {
        Doc.says("T", "The latest 10 changes can be undone.", "Changes are the methods whose description says so.");
        for (int changes = 0; changes <= 13; changes++) {
            PlaceOffice o = Check.office("school a 20 0 0;");
            for (int i = 0; i < changes; i++) {
                o.setCapacity(0, 21 + i);
            }
            int left = Math.min(10, changes);
            Check.is(changes + " changes", o.count(11), left);
            for (int i = 1; i <= left; i++) {
                Check.is(changes + " changes, undo " + i, o.undo() + " " + o.school(0, 0),
                    left - i + " " + (20 + changes - i));
            }
            Check.is(changes + " changes, no more", o.undo() + " " + o.school(0, 0), "-1 " + (20 + changes - left));
        }
    }

    /** All schools and children that there can be, with all their preferences; how many places each school has. */
    private static Twins fullOffice(int capacity) {
        Twins t = new Twins();
        StringBuilder text = new StringBuilder("seed 11;appeals 3;");
        String[] rules = {"", " zone", " care zone", " sibling care zone"};
        for (int school = 0; school < 8; school++) {
            char name = (char) ('a' + school);
            text.append("school ").append(name).append(' ').append(capacity).append(' ').append(school * 13).append(' ')
                .append(99 - school * 9).append(rules[school % 4]).append(';');
            text.append("zone ").append(name).append(" 0 0 ").append(school * 14).append(" 60;");
            text.append("pupil ").append(school % 6 + 1).append(name).append(';');
        }
        t.load(text.toString());
        for (int child = 0; child < 40; child++) {
            int first = child % 8;
            int wishes = first + 1;
            for (int step : new int[] {3, 5, 6}) {
                wishes = wishes * 10 + (first + step) % 8 + 1;
            }
            t.call("addChild", child * 37 % 100, child * 61 % 100, child % 7, child % 5 == 0, wishes);
        }
        t.call("allocate");
        t.call("moveHome", 39, 0, 99);
        t.call("appeal", 39, 7);
        t.call("appeal", 38, 6);
        t.call("withdraw", 1);
        t.call("setCapacity", 7, capacity == 0 ? 2 : capacity - 1);
        return t;
    }

    private static final String[][] QUESTIONS_OF_ALL = {
        {"placeOf:C", "gotPreference:C", "roundOf:C", "way:C", "nearest:C", "chainOf:C", "tradePartner:C", "siblings:C"},
        {"gainersWithout:C", "bestByOrder:C", "count:w", "school:Sw", "cutoff:Sw", "claims:", "firstShare:", "trades:",
            "meanPreference:", "together:", "freePlaces:", "meanWay:", "mostWaited:", "changedByAllocation:"},
        {"waitingPlace:CS"}, {"hasClaim:CS"}, {"classOf:CS"}, {"distance:CS"}, {"neededCapacity:CS"}, {"child:Cv"},
        {"preference:Cx", "rule:Sw", "lastHolder:S", "inZone:S", "triesOf:S", "wanted:Sx", "holdersOfClass:Sx"},
        {"holder:Sn"}, {"waiting:Sn"}, {"comesFirst:SCm"}, {"placeWith:CSx"}, {"printSchool:S"}, {"addChild:xxxbx"}};

    private static void allThatThereCanBe() {
        Check.about("T the most schools and children that there can be");
        for (int capacity : new int[] {0, 1, 3, 40}) {
            for (String[] group : QUESTIONS_OF_ALL) {
                Twins t = fullOffice(capacity);
                for (String line : group) {
                    askAll(t, line.substring(0, line.indexOf(':')), line.substring(line.indexOf(':') + 1));
                }
                Check.is("calls of one object: " + t.calls(), t.calls() <= 512, true);
            }
        }
    }

    private static void askAll(Twins t, String name, String kinds) {
        int[] most = new int[kinds.length()];
        Object[] args = new Object[kinds.length()];
        int all = 1;
        for (int i = 0; i < most.length; i++) {
            char kind = kinds.charAt(i);
            most[i] = kind == 'C' || kind == 'n' ? 40 : kind == 'S' ? 8 : kind == 'w' ? 12 : kind == 'v' ? 10
                : kind == 'x' ? 5 : 2;
            all *= most[i];
        }
        // No more than there is room for in the calls of one object, with a step that misses no child and no school.
        int step = (all + 399) / 400;
        while (step > 1 && (step % 2 == 0 || step % 5 == 0)) {
            step++;
        }
        for (int at = 0; at < all; at += step) {
            int rest = at;
            for (int i = 0; i < most.length; i++) {
                int number = rest % most[i];
                rest /= most[i];
                char kind = kinds.charAt(i);
                args[i] = kind == 'b' ? (Object) (number == 1) : kind == 'm' ? (Object) (39 - 20 * number) : number;
            }
            t.call(name, args);
        }
        if (name.equals("printSchool")) {
            for (int i = 0; i < 160; i++) {
                t.call("outputByte", i);
            }
        }
    }

    /**
     * A run that leaves something everywhere: five children, one of them late, one by appeal, one with a claim, one
     * withdrawn and one that gave its place back; changes, a saved state, output, input and an error.
     */
    static void lively(PlaceOffice o) {
        Check.load(o, "seed 7;appeals 1;school a 1 0 0 zone sibling;school b 2 10 0 care;zone a 0 0 3 3;pupil 3 a;"
            + "child 2 0 prefers a b;child 3 0 family 3 prefers a;child 9 0 care family 4 prefers b a;"
            + "child 1 1 prefers a b;");
        o.allocate();
        o.addChild(0, 5, 4, true, 12);
        o.setCapacity(1, 3);
        o.saveState();
        o.appeal(4, 0);
        o.giveBack(0);
        o.setLate(true);
        o.moveHome(3, 50, 50);
        o.withdraw(1);
        o.printSchool(0);
        Check.load(o, "late 3;");
        Check.append(o, "late 1;school x 1 2 3");
    }

    private static void livelyIsLively() {
        Check.about("the run that leaves something everywhere");
        PlaceOffice o = new PlaceOffice();
        lively(o);
        Check.is("places", places(o) + holders(o, 0) + waiters(o, 0), "[-1, -1, 1, 0, 0][3, 4][0]");
        Check.is("one of each", o.count(3) + " " + o.count(5) + " " + o.school(0, 7) + " " + o.school(0, 8) + " "
            + o.claims() + " " + o.count(10) + " " + o.count(11), "1 1 1 1 1 1 8");
        Check.is("output, error, input", Whole.output(o) + o.errorCode() + o.errorOffset() + o.truncateInput(21)
            + o.truncateInput(22), "a: 3 4*/ 025truefalse");
    }

    private static final String[] QUESTIONS = {"errorCode:", "errorOffset:", "count:w", "school:Sp", "rule:Sr", "child:Ck",
        "preference:Cf", "placeOf:C", "gotPreference:C", "meets:CSt", "classOf:CS", "distance:CS", "comesFirst:SCC",
        "holder:Sf", "waiting:Sf", "waitingPlace:CS", "hasClaim:CS", "claims:", "roundOf:C", "lastHolder:S", "firstShare:",
        "meanPreference:", "way:C", "wanted:Sr", "inZone:S", "together:", "cutoff:St", "nearest:C", "chainOf:C",
        "freePlaces:", "tradePartner:C", "trades:", "holdersOfClass:Sr", "triesOf:S", "meanWay:", "mostWaited:",
        "siblings:C", "changedByAllocation:", "placeWith:CSt", "neededCapacity:CS", "gainersWithout:C", "bestByOrder:C",
        "outputByte:w"};

    private static void questionsChangeNothing() {
        Doc.says("T", "Questions change nothing.");
        for (String line : QUESTIONS) {
            String name = line.substring(0, line.indexOf(':'));
            String kinds = line.substring(line.indexOf(':') + 1);
            // Enough first arguments to meet each child or school once, and answers of all kinds.
            for (int i = 0; i < (kinds.isEmpty() ? 1 : kinds.charAt(0) == 'S' ? 2 : 5); i++) {
                Object[] args = new Object[kinds.length()];
                for (int k = 0; k < args.length; k++) {
                    args[k] = kinds.charAt(k) == 'S' ? (i + k) % 2 : kinds.charAt(k) == 'C' ? (i + k) % 5 : i % 2;
                }
                Whole.same(name + i, Whole.ALL, SentencesOfTerms::lively, o -> {
                    lively(o);
                    Whole.answer(o, name, args);
                });
            }
        }
        Whole.same("printSchool", Whole.but(Whole.Part.OUTPUT), SentencesOfTerms::lively, o -> {
            lively(o);
            o.printSchool(1);
        });
    }

    private static final Object[][] THROWING = {
        {"count", ARGUMENT, -1}, {"count", ARGUMENT, 12}, {"school", INDEX, 2, 0}, {"school", ARGUMENT, 0, 10},
        {"rule", INDEX, 2, 0}, {"rule", ELEMENT, 0, 2}, {"child", INDEX, 5, 0}, {"child", ARGUMENT, 0, 9},
        {"preference", INDEX, 5, 0}, {"preference", ELEMENT, 1, 1}, {"placeOf", INDEX, 5}, {"gotPreference", INDEX, 5},
        {"meets", INDEX, 5, 0, 0}, {"meets", INDEX, 0, 2, 0}, {"meets", ARGUMENT, 0, 0, 3}, {"classOf", INDEX, 5, 0},
        {"classOf", INDEX, 0, 2}, {"distance", INDEX, 5, 0}, {"distance", INDEX, 0, 2}, {"comesFirst", INDEX, 2, 0, 1},
        {"comesFirst", INDEX, 0, 5, 1}, {"comesFirst", INDEX, 0, 1, 5}, {"holder", INDEX, 2, 0}, {"holder", ELEMENT, 0, 9},
        {"waiting", INDEX, 2, 0}, {"waiting", ELEMENT, 0, 9}, {"waitingPlace", INDEX, 5, 0}, {"waitingPlace", INDEX, 0, 2},
        {"hasClaim", INDEX, 5, 0}, {"hasClaim", INDEX, 0, 2}, {"roundOf", INDEX, 5},
        {"addChild", ARGUMENT, 100, 0, 0, true, 1}, {"addChild", ARGUMENT, 0, -1, 0, true, 1},
        {"addChild", ARGUMENT, 0, 0, 100, true, 1}, {"addChild", ARGUMENT, 0, 0, 0, true, 3},
        {"addChild", ARGUMENT, 0, 0, 0, true, 11}, {"withdraw", INDEX, 5}, {"withdraw", STATE, 1}, {"giveBack", INDEX, 5},
        {"giveBack", STATE, 0}, {"moveHome", INDEX, 5, 0, 0}, {"moveHome", ARGUMENT, 1, 0, 100},
        {"setCapacity", INDEX, 2, 0}, {"setCapacity", ARGUMENT, 0, 41}, {"appeal", INDEX, 5, 0}, {"appeal", INDEX, 1, 2},
        {"appeal", STATE, 1, 0}, {"lastHolder", INDEX, 2}, {"way", INDEX, 5}, {"wanted", INDEX, 2, 0}, {"inZone", INDEX, 2},
        {"cutoff", INDEX, 2, 0}, {"cutoff", ARGUMENT, 0, 3}, {"nearest", INDEX, 5}, {"chainOf", INDEX, 5},
        {"tradePartner", INDEX, 5}, {"holdersOfClass", INDEX, 2, 0}, {"triesOf", INDEX, 2}, {"siblings", INDEX, 5},
        {"placeWith", INDEX, 5, 0, 1}, {"placeWith", INDEX, 0, 2, 1}, {"placeWith", ARGUMENT, 0, 0, 41},
        {"neededCapacity", INDEX, 5, 0}, {"neededCapacity", INDEX, 0, 2}, {"gainersWithout", INDEX, 5},
        {"bestByOrder", INDEX, 5}, {"printSchool", INDEX, 2}};

    private static void throwingChangesNothing() {
        Doc.says("T", "A method that throws changes nothing.");
        for (Object[] call : THROWING) {
            String name = (String) call[0];
            Object[] args = java.util.Arrays.copyOfRange(call, 2, call.length);
            Whole.same(name, Whole.ALL, SentencesOfTerms::lively, o -> {
                lively(o);
                Check.is(name, Whole.answer(o, name, args), call[1]);
            });
        }
        Whole.same("addChild, full", EnumSet.of(Whole.Part.UNDO, Whole.Part.OUTPUT, Whole.Part.ERROR), o -> {
            Check.load(o, FULL);
            o.setCapacity(0, 3);
        }, o -> {
            Check.load(o, FULL);
            o.setCapacity(0, 3);
            Check.is("addChild", Whole.answer(o, "addChild", 1, 1, 0, false, 1), STATE);
        });
        Whole.same("restoreState", Whole.ALL, o -> Check.load(o, KEPT), o -> {
            Check.load(o, KEPT);
            Check.is("restoreState", Whole.answer(o, "restoreState"), STATE);
        });
    }

    private static void theFirstException() {
        Doc.says("T", "If several exceptions apply to a call, the one that is listed first is thrown.");
        PlaceOffice o = allocated("school a 1 0 0 care;child 1 1 prefers a;child 2 2 prefers a;");
        o.withdraw(1);
        int[] bad = {-1, Integer.MIN_VALUE, Integer.MAX_VALUE};
        for (int b : bad) {
            Check.fails("school", INDEX, () -> o.school(b, b));
            Check.fails("rule", INDEX, () -> o.rule(b, b));
            Check.fails("child", INDEX, () -> o.child(b, b));
            Check.fails("preference", INDEX, () -> o.preference(b, b));
            Check.fails("meets, child", INDEX, () -> o.meets(b, 0, b));
            Check.fails("meets, school", INDEX, () -> o.meets(0, b, b));
            Check.fails("holder", INDEX, () -> o.holder(b, b));
            Check.fails("waiting", INDEX, () -> o.waiting(b, b));
            Check.fails("moveHome", INDEX, () -> o.moveHome(b, b, b));
            Check.fails("setCapacity", INDEX, () -> o.setCapacity(b, b));
            Check.fails("appeal, of a child that does not wait", INDEX, () -> o.appeal(0, b));
            Check.fails("appeal, of no child", INDEX, () -> o.appeal(b, 0));
            Check.fails("cutoff", INDEX, () -> o.cutoff(b, b));
            Check.fails("placeWith, child", INDEX, () -> o.placeWith(b, 0, b));
            Check.fails("placeWith, school", INDEX, () -> o.placeWith(0, b, b));
        }
        PlaceOffice full = Check.office(FULL);
        for (int b : bad) {
            Check.fails("addChild, full, x", ARGUMENT, () -> full.addChild(b, 0, 0, false, 1));
            Check.fails("addChild, full, y", ARGUMENT, () -> full.addChild(0, b, 0, false, 1));
            Check.fails("addChild, full, family", ARGUMENT, () -> full.addChild(0, 0, b, false, 1));
            Check.fails("addChild, full, preferences", ARGUMENT, () -> full.addChild(0, 0, 0, false, b));
        }
        Check.fails("addChild, full", STATE, () -> full.addChild(0, 0, 0, false, 1));
    }

    static void run() {
        sentencesWithoutAnEdge();
        the512thCall();
        eightSchools();
        rowsOfRules();
        sidesOfAZone();
        fortyChildren();
        whatAChildHas();
        lateChildren();
        withdrawnChildren();
        twentyPupils();
        meetingARule();
        classes();
        distances();
        whoComesFirst();
        nearlySameChildren();
        nearlySameLots();
        lots();
        openAtFirst();
        allocationTakesBack();
        rounds();
        allocationForgetsAppeals();
        waitingChildren();
        filling();
        fillingBySchool();
        fillingLongest();
        claims();
        claimsBeyondAppeals();
        appeals();
        placesByAppeal();
        tenChanges();
        allThatThereCanBe();
        livelyIsLively();
        questionsChangeNothing();
        throwingChangesNothing();
        theFirstException();
    }
}
