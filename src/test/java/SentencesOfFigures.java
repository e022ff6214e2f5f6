/** The sentences of the promises 32 to 59 (figures, what would be, output, undo and saved states), with their edges. */
final class SentencesOfFigures {
    private static final Class<? extends Exception> INDEX = SentencesOfTerms.INDEX;
    private static final Class<? extends Exception> ARGUMENT = SentencesOfTerms.ARGUMENT;
    private static final Class<? extends Exception> STATE = SentencesOfTerms.STATE;
    private static final String ROW = SentencesOfPromises.ROW;
    private static final String FULL = SentencesOfTerms.FULL;
    private static final int[] OUTSIDE = {-1, Integer.MIN_VALUE, Integer.MAX_VALUE};

    private SentencesOfFigures() {
    }

    private static PlaceOffice allocated(String text) {
        return SentencesOfTerms.allocated(text);
    }

    private static String places(PlaceOffice o) {
        return SentencesOfTerms.places(o);
    }

    private static void noChild(String key, String name, String kinds) {
        Doc.says(key, SentencesOfPromises.NO_CHILD);
        SentencesOfPromises.numbersOf(name, kinds);
    }

    private static void noSchool(String key, String name, String kinds) {
        Doc.says(key, SentencesOfPromises.NO_SCHOOL);
        SentencesOfPromises.numbersOf(name, kinds);
    }

    private static void neither(String key, String name, String kinds) {
        Doc.says(key, SentencesOfPromises.NEITHER);
        SentencesOfPromises.numbersOf(name, kinds);
    }

    private static void p32() {
        Doc.says("P32", "Returns the child of a school that comes last of those that have a place there.",
            "Returns number of the child; -1 without any.");
        PlaceOffice o = Check.office(ROW);
        Check.is("open", o.lastHolder(0), -1);
        o.allocate();
        Check.is("one each", o.lastHolder(0) + " " + o.lastHolder(1) + " " + o.lastHolder(2), "0 3 2");
        o.appeal(2, 0);
        Check.is("also by appeal", o.lastHolder(0), 2);
        o.moveHome(2, 0, 0);
        Check.is("of now", o.lastHolder(0), 0);
        o.withdraw(0);
        Check.is("not the withdrawn one", o.lastHolder(0), 2);
        PlaceOffice none = allocated("school a 0 0 0;child 1 1 prefers a;");
        Check.is("only waiting ones", none.lastHolder(0), -1);
        PlaceOffice full = allocated("school a 40 1 1;" + "child1 1prefers a;".repeat(40));
        Check.is("of forty", full.lastHolder(0), full.holder(0, 39));
        noSchool("P32", "lastHolder", "S");
    }

    private static void p33p34() {
        Doc.says("P33", "Returns the share of the children with a place that got their first preference, both numbers "
            + "converted to float; withdrawn ones are left aside.", "Returns the share; 0 without children with a place.");
        Check.is("a new object", new PlaceOffice().firstShare(), 0.0f);
        PlaceOffice o = Check.office(ROW);
        Check.is("open", o.firstShare(), 0.0f);
        o.allocate();
        Check.is("1 of 3", o.firstShare(), 1.0f / 3.0f);
        o.withdraw(1);
        Check.is("one without a place is withdrawn", o.firstShare(), 1.0f / 3.0f);
        o.withdraw(2);
        Check.is("1 of 2", o.firstShare(), 0.5f);
        o.withdraw(3);
        Check.is("1 of 1", o.firstShare(), 1.0f);
        o.withdraw(0);
        Check.is("all are withdrawn", o.firstShare(), 0.0f);
        PlaceOffice second = allocated("school a 0 0 0;school b 9 0 0;child 1 1 prefers a b;child 1 1 prefers a b;");
        Check.is("0 of 2", second.firstShare(), 0.0f);
        PlaceOffice many = allocated("school a 7 0 0;school b 40 0 0;" + "child1 1prefers a b;".repeat(36));
        Check.is("7 of 36, in float", many.firstShare(), 7f / 36f);
        many.setCapacity(0, 13);
        Check.is("13 of 36, in float", many.firstShare(), 13f / 36f);
        Doc.says("P34", "Returns the mean of the places in the preferences that children with a place got, counted from 1: the "
            + "sum divided by their number, both converted to double.", "Returns the mean; 0.0 without such children.");
        Check.is("a new object", new PlaceOffice().meanPreference(), 0.0);
        Check.is("open", Check.office(ROW).meanPreference(), 0.0);
        Check.is("1, 3 and 2", allocated(ROW).meanPreference(), 2.0);
        Check.is("2 and 2", second.meanPreference(), 2.0);
        Check.is("13 times 1, 23 times 2", many.meanPreference(), 59.0 / 36.0);
        Check.is("all are withdrawn", o.meanPreference(), 0.0);
        PlaceOffice fourth = allocated("school a 0 0 0;school b 0 0 0;school c 0 0 0;school d 1 0 0;"
            + "child 1 1 prefers a b c d;child 9 9 prefers d;");
        Check.is("4", fourth.meanPreference(), 4.0);
        Check.is("none", allocated("school a 0 0 0;child 1 1 prefers a;").meanPreference(), 0.0);
    }

    /** The root as the document tells it. */
    private static double root(int v) {
        if (v == 0) {
            return 0.0;
        }
        double r = v;
        for (int i = 0; i < 60; i++) {
            r = (r + v / r) / 2.0;
        }
        return r;
    }

    private static void p35p47() {
        Doc.says("P35", "Returns the distance of a child to the school where it has a place, as a length: the root of the "
            + "distance (see meanWay), cast to float.", "Returns the length; -1 without a place.");
        PlaceOffice o = Check.office("school a 40 0 0;child 1 1 prefers a;");
        Check.is("open", o.way(0), -1.0f);
        o.allocate();
        for (int x = 0; x < 100; x += 3) {
            for (int y = x; y < 100; y += 11) {
                o.moveHome(0, x, y);
                Check.is("at " + x + ", " + y, o.way(0), (float) root(x * x + y * y));
                if (o.count(11) == 10 && y > 88) {
                    o = allocated("school a 40 0 0;child 1 1 prefers a;");
                }
            }
        }
        o.moveHome(0, 0, 0);
        Check.is("none", o.way(0), 0.0f);
        o.moveHome(0, 99, 99);
        Check.is("the farthest", o.way(0), (float) root(19602));
        o.moveHome(0, 0, 1);
        Check.is("1", o.way(0), 1.0f);
        o.withdraw(0);
        Check.is("withdrawn", o.way(0), -1.0f);
        Check.is("it only waits", allocated("school a 0 0 0;child 1 1 prefers a;").way(0), -1.0f);
        noChild("P35", "way", "C");
        Doc.says("P47", "Returns the mean of the lengths of the ways of all children with a place: the sum of the roots of "
            + "their distances, in the order of their numbers, divided by their number, in double.",
            "The root of a distance v is 0.0 if v is 0; otherwise r is v at first, and 60 times r becomes (r + v / r) / 2.0, "
            + "in double.", "Returns the mean; 0.0 without children with a place.");
        Check.is("a new object", new PlaceOffice().meanWay(), 0.0);
        Check.is("all are withdrawn", o.meanWay(), 0.0);
        PlaceOffice p = Check.office("school a 7 0 0;school b 1 50 50;child 3 4 prefers a;child 0 0 prefers a;"
            + "child 50 49 prefers b;child 99 99 prefers a;child 17 31 prefers a;child 51 52 prefers b;"
            + "child 2 3 prefers a;");
        Check.is("open", p.meanWay(), 0.0);
        p.allocate();
        Check.is("six of seven", p.meanWay(),
            (root(25) + 0.0 + root(1) + root(19602) + root(17 * 17 + 31 * 31) + root(13)) / 6.0);
        p.withdraw(3);
        Check.is("five", p.meanWay(), (root(25) + 0.0 + root(1) + root(17 * 17 + 31 * 31) + root(13)) / 5.0);
        PlaceOffice two = allocated("school a 1 0 0;child 1 1 prefers a;");
        Check.is("not quite the root of the machine", two.meanWay() + " " + (two.meanWay() == Math.sqrt(2.0)),
            root(2) + " false");
        PlaceOffice zero = allocated("school a 7 5 5;child 5 5 prefers a;child 5 5 prefers a;");
        Check.is("no way at all", zero.meanWay(), 0.0);
        PlaceOffice sum = allocated("school a 40 0 0;" + "child1 1prefers a;".repeat(40));
        double ways = 0.0;
        for (int child = 0; child < 40; child++) {
            sum.moveHome(child, 2 * child + 1, 97 - child);
            ways += root((2 * child + 1) * (2 * child + 1) + (97 - child) * (97 - child));
        }
        Check.is("forty, in their order", sum.meanWay(), ways / 40.0);
    }

    private static void p36() {
        Doc.says("P36", "Counts the children that were not withdrawn and that have a school at a place in their preferences.",
            "`index`: place in the preferences, from 0");
        PlaceOffice o = Check.office("school a 1 0 0;school b 1 0 0;school c 1 0 0;school d 1 0 0;"
            + "child 1 1 prefers a b c d;child 1 1 prefers a c;child 1 1 prefers d c b a;child 1 1 prefers c;");
        String[] due = {"2001", "0110", "1210", "1001"};
        for (int school = 0; school < 4; school++) {
            Check.is("school " + school, "" + o.wanted(school, 0) + o.wanted(school, 1) + o.wanted(school, 2)
                + o.wanted(school, 3), due[school]);
        }
        o.withdraw(0);
        Check.is("one is withdrawn", o.wanted(0, 0) + " " + o.wanted(3, 3), "1 0");
        Doc.says("P36", "Returns the number of children; 0 for any other index than 0 to 3.");
        for (int school = 0; school < 4; school++) {
            for (int index : new int[] {-1, -4, -8, 4, 5, 7, 8, 16, 32, 64, Integer.MIN_VALUE, Integer.MAX_VALUE}) {
                Check.is("index " + index, o.wanted(school, index), 0);
            }
        }
        Check.is("none at all", Check.office("school a 1 0 0;").wanted(0, 0), 0);
        Check.is("forty", Check.office(FULL).wanted(0, 0), 40);
        PlaceOffice back = allocated(ROW);
        back.giveBack(2);
        Check.is("taken off", back.wanted(2, 2) + " " + back.wanted(1, 1), "3 4");
        noSchool("P36", "wanted", "Sx");
    }

    private static void p37() {
        Doc.says("P37", "Counts the children that were not withdrawn and whose home lies in the zone of a school.",
            "Returns the number of children; 0 if the school has no zone.");
        PlaceOffice o = Check.office("school a 1 0 0;school b 1 0 0 zone;school c 1 0 0;zone a 10 10 12 12;zone c 0 0 99 99;"
            + "child 10 12 prefers b;child 12 10 prefers b;child 9 10 prefers a;child 13 12 prefers a;"
            + "child 11 9 prefers a;child 11 13 prefers a;child 0 0 prefers b;");
        Check.is("in a, in b, in c", o.inZone(0) + " " + o.inZone(1) + " " + o.inZone(2), "2 0 7");
        o.withdraw(0);
        Check.is("one is withdrawn", o.inZone(0) + " " + o.inZone(1) + " " + o.inZone(2), "1 0 6");
        o.moveHome(6, 12, 12);
        Check.is("moved into it", o.inZone(0), 2);
        Check.is("added", o.addChild(11, 11, 0, false, 2) + " " + o.inZone(0), "7 3");
        Check.is("no children", Check.office("school a 1 0 0;zone a 0 0 99 99;").inZone(0), 0);
        noSchool("P37", "inZone", "S");
    }

    private static void p38() {
        Doc.says("P38", "Counts the families (but 0) of which two or more children have a place, and all of these have it at "
            + "the same school.", "Returns the number of families.");
        Check.is("a new object", new PlaceOffice().together(), 0);
        String head = "school a 9 0 0;school b 9 0 0;school c 0 0 0;";
        String[][] cases = {{"child 1 1 prefers a;child 1 1 prefers a;", "0"},
            {"child 1 1 family 5 prefers a;child 1 1 prefers a;", "0"},
            {"child 1 1 family 5 prefers a;child 1 1 family 6 prefers a;", "0"},
            {"child 1 1 family 1 prefers a;child 1 1 family 1 prefers a;", "1"},
            {"child 1 1 family 99 prefers a;child 1 1 family 99 prefers a;", "1"},
            {"child 1 1 family 5 prefers a;child 1 1 family 5 prefers b;", "0"},
            {"child 1 1 family 5 prefers a;child 1 1 family 5 prefers c;", "0"},
            {"child 1 1 family 5 prefers a;child 1 1 family 5 prefers c;child 1 1 family 5 prefers a;", "1"},
            {"child 1 1 family 5 prefers a;child 1 1 family 5 prefers a;child 1 1 family 5 prefers b;", "0"},
            {"child 1 1 family 5 prefers b;child 1 1 family 5 prefers a;child 1 1 family 5 prefers a;", "0"},
            {"child 1 1 family 5 prefers b;child 1 1 family 5 prefers b;child 1 1 family 5 prefers b;", "1"},
            {"child 1 1 family 5 prefers b;child 1 1 family 6 prefers a;child 1 1 family 6 prefers a;"
                + "child 1 1 family 5 prefers b;", "2"},
            {"child 1 1 family 5 prefers c;child 1 1 family 5 prefers c;", "0"}};
        for (String[] c : cases) {
            PlaceOffice o = Check.office(head + c[0]);
            Check.is("open, " + c[0], o.together(), 0);
            o.allocate();
            Check.is(c[0], o.together(), Integer.parseInt(c[1]));
        }
        PlaceOffice o = allocated(head + cases[8][0]);
        o.withdraw(2);
        Check.is("the one that was apart is withdrawn", o.together(), 1);
        o.withdraw(0);
        Check.is("one is left", o.together(), 0);
        PlaceOffice twenty = allocated("school a 40 1 1;");
        for (int child = 0; child < 40; child++) {
            twenty.addChild(1, 1, 80 + child / 2, false, 1);
        }
        Check.is("twenty families, 80 to 99", twenty.together(), 20);
    }

    private static void p39() {
        Doc.says("P39", "Returns what the child that comes last of those with a place at a school has.",
            "`what`: 0 its class, 1 its distance, 2 its lot",
            "Returns the number; -1 if no child has a place there.");
        PlaceOffice o = Check.office("seed 8;appeals 1;school a 2 0 0 care sibling zone;school b 1 0 0;child 0 0 care prefers a;"
            + "child 99 99 prefers a;child 98 99 prefers a;");
        Check.is("open", o.cutoff(0, 0) + " " + o.cutoff(0, 1) + " " + o.cutoff(0, 2), "-1 -1 -1");
        o.allocate();
        Check.is("the last one", o.cutoff(0, 0) + " " + o.cutoff(0, 1) + " " + o.cutoff(0, 2), "3 19405 "
            + SentencesOfTerms.lot(8, 2));
        Check.is("nobody there", o.cutoff(1, 0) + " " + o.cutoff(1, 1) + " " + o.cutoff(1, 2), "-1 -1 -1");
        o.appeal(1, 0);
        Check.is("by appeal", o.cutoff(0, 0) + " " + o.cutoff(0, 1) + " " + o.cutoff(0, 2), "3 19602 "
            + SentencesOfTerms.lot(8, 1));
        o.withdraw(1);
        o.withdraw(2);
        Check.is("the best one alone", o.cutoff(0, 0) + " " + o.cutoff(0, 1) + " " + o.cutoff(0, 2), "0 0 "
            + SentencesOfTerms.lot(8, 0));
        Doc.says("P39", "Throws `IllegalArgumentException` if what is out of range");
        for (int wrong : new int[] {-1, 3, 4, Integer.MIN_VALUE, Integer.MAX_VALUE}) {
            Check.fails("what " + wrong, ARGUMENT, () -> o.cutoff(0, wrong));
            Check.fails("what " + wrong + ", nobody there", ARGUMENT, () -> o.cutoff(1, wrong));
            Check.fails("what " + wrong + ", open", ARGUMENT, () -> Check.office(ROW).cutoff(0, wrong));
        }
        noSchool("P39", "cutoff", "Sx");
    }

    private static void p40() {
        Doc.says("P40", "Returns the school that is nearest to a child, by distance.",
            "Returns number of the school, the smallest one on a tie; -1 without schools.");
        PlaceOffice o = Check.office("school a 1 50 50;school b 1 50 60;school c 1 50 60;school d 1 0 99;school e 1 50 50;"
            + "child 50 55 prefers e;child 50 56 prefers a;child 50 54 prefers b;child 0 99 prefers a;child 99 0 prefers d;");
        int[] due = {0, 1, 0, 3, 0};
        for (int child = 0; child < 5; child++) {
            Check.is("child " + child, o.nearest(child), due[child]);
        }
        o.withdraw(3);
        Check.is("withdrawn", o.nearest(3), 3);
        PlaceOffice last = Check.office(SentencesOfTerms.EIGHT + "child 17 97 prefers a;child 10 90 prefers h;");
        Check.is("the eighth, and the first", last.nearest(0) + " " + last.nearest(1), "7 0");
        Check.is("one school", Check.office("school a 0 99 99;child 0 0 prefers a;").nearest(0), 0);
        // Without schools there can be no child.
        Check.fails("without schools", INDEX, () -> new PlaceOffice().nearest(0));
        noChild("P40", "nearest", "C");
    }

    private static void p41() {
        Doc.says("P41", "Forecasts how many places would be filled if a child was withdrawn now.",
            "Returns the number of places; 0 if the state is open, or the child was withdrawn before.");
        String chain = "school a 1 0 0;school b 1 10 0;school c 1 20 0;school d 1 30 0;child 1 0 prefers a;"
            + "child 9 0 prefers a b;child 19 0 prefers b c;child 29 0 prefers c d;child 31 31 prefers d;";
        PlaceOffice o = Check.office(chain);
        o.setCapacity(0, 2);
        Check.is("open", o.chainOf(0) + " " + o.chainOf(4), "0 0");
        o.undo();
        o.allocate();
        Check.is("places", places(o), "[0, 1, 2, 3, -1]");
        String[] due = {"4", "3", "2", "1", "0"};
        for (int child = 0; child < 5; child++) {
            Check.is("child " + child, Integer.toString(o.chainOf(child)), due[child]);
        }
        Check.is("it stays a forecast", places(o) + o.count(10) + o.count(3), "[0, 1, 2, 3, -1]00");
        o.withdraw(2);
        Check.is("behind a filled place", o.count(10) + places(o), "2[0, 1, -1, 2, 3]");
        Check.is("only those that would be filled", o.chainOf(0) + " " + o.chainOf(1) + " " + o.chainOf(3), "1 0 0");
        Check.is("withdrawn before", o.chainOf(2), 0);
        o.setCapacity(0, 0);
        Check.is("no place gets free in a school beyond its capacity", o.chainOf(0), 0);
        PlaceOffice p = allocated("appeals 1;" + chain);
        p.appeal(1, 0);
        Check.is("a place by appeal is not filled", p.chainOf(1) + " " + p.chainOf(0), "0 0");
        noChild("P41", "chainOf", "C");
    }

    private static void p42() {
        Doc.says("P42", "Returns the places that are free: the sum, over all schools with fewer children than their capacity, of "
            + "the differences.", "Returns the sum.");
        Check.is("a new object", new PlaceOffice().freePlaces(), 0);
        PlaceOffice o = Check.office("appeals 9;school a 1 0 0;school b 5 0 0;school c 0 0 0;child 1 0 prefers a b;"
            + "child 2 0 prefers a b;child 3 0 prefers a b;");
        Check.is("open", o.freePlaces(), 6);
        o.allocate();
        Check.is("two at b", places(o) + o.freePlaces(), "[0, 1, 1]3");
        o.appeal(1, 0);
        o.appeal(2, 0);
        Check.is("a has two too many", o.freePlaces(), 5);
        o.setCapacity(0, 3);
        Check.is("a has as many as its capacity", o.freePlaces(), 5);
        o.setCapacity(0, 4);
        Check.is("a has one free", o.freePlaces(), 6);
        PlaceOffice most = Check.office("school a 40 0 0;school b 40 0 0;school c 40 0 0;school d 40 0 0;school e 40 0 0;"
            + "school f 40 0 0;school g 40 0 0;school h 40 0 0;");
        Check.is("eight times forty", most.freePlaces(), 320);
    }

    private static void p43p44() {
        Doc.says("P43", "Finds the child with which a child would exchange places: both have places, and each one prefers the "
            + "place of the other one to its own.", "Returns number of the other child, the smallest one; -1 if there is none.");
        String head = "appeals 9;school a 0 0 0;school b 0 0 0;school c 0 0 0;";
        PlaceOffice open = Check.office(head + "child 1 1 prefers a b;child 1 1 prefers b a;");
        Check.is("open", open.tradePartner(0) + " " + open.trades(), "-1 0");
        open.allocate();
        Check.is("without places", open.tradePartner(0) + " " + open.trades(), "-1 0");
        open.appeal(0, 1);
        Check.is("one has a place", open.tradePartner(0) + " " + open.tradePartner(1) + " " + open.trades(), "-1 -1 0");
        open.appeal(1, 0);
        Check.is("both have", open.tradePartner(0) + " " + open.tradePartner(1) + " " + open.trades(), "1 0 1");
        open.withdraw(1);
        Check.is("one is withdrawn", open.tradePartner(0) + " " + open.trades(), "-1 0");
        PlaceOffice o = allocated(head + "child 1 1 prefers a b c;child 1 1 prefers a b c;child 1 1 prefers b a;"
            + "child 1 1 prefers b a;child 1 1 prefers c a;");
        o.appeal(0, 1);
        o.appeal(1, 2);
        o.appeal(2, 0);
        o.appeal(3, 0);
        o.appeal(4, 0);
        // 0 has b and wants a; 1 has c and wants a and b; 2 and 3 have a and want b; 4 has a and wants c.
        Check.is("the smallest one", o.tradePartner(0), 2);
        Check.is("only one way", o.tradePartner(1), 4);
        Check.is("back", o.tradePartner(2) + " " + o.tradePartner(3) + " " + o.tradePartner(4), "0 0 1");
        Doc.says("P43", SentencesOfPromises.NO_CHILD);
        SentencesOfPromises.numbersOf("tradePartner", "C");
        Doc.says("P44", "Counts the pairs of children that would exchange places (see tradePartner).",
            "Returns the number of pairs.");
        Check.is("0 with 2, 0 with 3, 1 with 4", o.trades(), 3);
        Check.is("a new object", new PlaceOffice().trades(), 0);
        Check.is("the same school", allocated("school a 2 0 0;child 1 1 prefers a;child 1 1 prefers a;").trades(), 0);
        PlaceOffice most = Check.office("school a 20 0 0;school b 20 99 0;");
        for (int child = 0; child < 40; child++) {
            most.addChild(child % 2 * 99, 0, 0, false, child % 2 == 0 ? 21 : 12);
        }
        // Those that live at a want b, and the other way round, but each school has the nearest ones.
        most.allocate();
        Check.is("those that did get what they want", most.trades() + " " + most.firstShare(), "0 1.0");
    }

    private static void p45() {
        Doc.says("P45", "Counts the children that have a place at a school and have a class there.",
            "`wanted`: the class, any int", "Returns the number of children.");
        PlaceOffice o = Check.office("school a 4 0 0 care sibling zone;school b 9 0 0;zone a 0 0 9 9;pupil 1 a;"
            + "child 1 1 care prefers a;child 1 1 family 1 prefers a;child 1 1 prefers a;child 50 50 prefers a;"
            + "child 60 60 prefers a;child 1 1 prefers b;");
        Check.is("open", o.holdersOfClass(0, 0), 0);
        o.allocate();
        Check.is("one of each", o.holdersOfClass(0, 0) + " " + o.holdersOfClass(0, 1) + " " + o.holdersOfClass(0, 2) + " "
            + o.holdersOfClass(0, 3), "1 1 1 1");
        Check.is("without rules", o.holdersOfClass(1, 0) + " " + o.holdersOfClass(1, 1), "1 0");
        for (int wrong : new int[] {-1, 4, 5, Integer.MIN_VALUE, Integer.MAX_VALUE, 256, -256}) {
            Check.is("class " + wrong, o.holdersOfClass(0, wrong), 0);
        }
        o.moveHome(3, 9, 9);
        Check.is("of now", o.holdersOfClass(0, 2) + " " + o.holdersOfClass(0, 3), "2 0");
        o.withdraw(0);
        Check.is("withdrawn", o.holdersOfClass(0, 0) + " " + o.holdersOfClass(0, 3), "0 1");
        PlaceOffice full = allocated("school a 40 1 1;" + "child1 1prefers a;".repeat(40));
        Check.is("forty", full.holdersOfClass(0, 0), 40);
        noSchool("P45", "holdersOfClass", "Sx");
    }

    private static void p46() {
        Doc.says("P46", "Counts the children that would try a school if an allocation was made now.",
            "Returns the number of children.");
        PlaceOffice o = Check.office(ROW + "child 9 9 prefers c;");
        Check.is("all try a, all but 0 try b, 1 and 2 and 4 try c", o.triesOf(0) + " " + o.triesOf(1) + " " + o.triesOf(2),
            "4 3 3");
        o.setCapacity(0, 4);
        Check.is("those that get a try no more", o.triesOf(0) + " " + o.triesOf(1) + " " + o.triesOf(2), "4 0 1");
        o.setCapacity(0, 0);
        Check.is("none at a", o.triesOf(0) + " " + o.triesOf(1) + " " + o.triesOf(2), "4 4 4");
        o.withdraw(4);
        o.withdraw(0);
        Check.is("two are withdrawn", o.triesOf(0) + " " + o.triesOf(1) + " " + o.triesOf(2), "3 3 2");
        Check.is("no allocation is made", o.count(8) + " " + o.count(4) + " " + o.count(9), "0 0 0");
        // 0 loses b to 1, which loses a to 2: it tries b and then c.
        PlaceOffice p = allocated("school a 1 0 0;school b 1 50 0;school c 1 99 0;child 30 0 prefers b c;"
            + "child 45 0 prefers a b;child 1 0 prefers a;");
        Check.is("with a place, too", p.triesOf(0) + " " + p.triesOf(1) + " " + p.triesOf(2), "2 2 1");
        p.moveHome(2, 99, 0);
        Check.is("of an allocation of now", p.triesOf(0) + " " + p.triesOf(1) + " " + p.triesOf(2), "2 1 0");
        Check.is("no children", Check.office("school a 1 0 0;").triesOf(0), 0);
        Check.is("forty", Check.office(FULL).triesOf(0), 40);
        noSchool("P46", "triesOf", "S");
    }

    private static void p48() {
        Doc.says("P48", "Returns the school with the longest waiting list.",
            "Returns number of the school, the smallest one on a tie; -1 if no child waits.");
        Check.is("a new object", new PlaceOffice().mostWaited(), -1);
        PlaceOffice o = Check.office("school a 9 0 0;school b 0 0 0;school c 0 0 0;child 1 1 prefers c a;child 1 1 prefers b a;"
            + "child 1 1 prefers c;");
        Check.is("open", o.mostWaited(), -1);
        o.allocate();
        Check.is("two for c", o.mostWaited(), 2);
        o.withdraw(2);
        Check.is("a tie", o.mostWaited(), 1);
        o.withdraw(1);
        Check.is("one for c", o.mostWaited(), 2);
        o.setCapacity(2, 1);
        Check.is("no child waits", o.mostWaited(), -1);
        PlaceOffice all = allocated("school a 0 0 0;school b 0 0 0;child 1 1 prefers b a;");
        Check.is("a tie of all", all.mostWaited(), 0);
        PlaceOffice eight = allocated(SentencesOfTerms.EIGHT.replace("h 8", "h 0") + "child 1 1 prefers h;");
        Check.is("the eighth", eight.mostWaited(), 7);
    }

    private static void p49() {
        Doc.says("P49", "Returns the other children of the family of a child that were not withdrawn.",
            "Returns the set of these children, as a bit mask; 0 for the family 0.");
        PlaceOffice o = Check.office("school a 1 1 1;" + "child1 1prefers a;".repeat(30));
        for (int child = 30; child < 40; child++) {
            o.addChild(1, 1, child % 2 == 0 ? 99 : 1, false, 1);
        }
        Check.is("even ones", o.siblings(30), 1L << 32 | 1L << 34 | 1L << 36 | 1L << 38);
        Check.is("odd ones", o.siblings(39), 1L << 31 | 1L << 33 | 1L << 35 | 1L << 37);
        Check.is("the family 0", o.siblings(0) + o.siblings(29), 0L);
        o.withdraw(32);
        Check.is("one is withdrawn", o.siblings(30), 1L << 34 | 1L << 36 | 1L << 38);
        Check.is("of that one", o.siblings(32), 1L << 30 | 1L << 34 | 1L << 36 | 1L << 38);
        o.withdraw(0);
        Check.is("a withdrawn one of the family 0", o.siblings(0), 0L);
        PlaceOffice p = Check.office("school a 1 1 1;pupil 5 a;child 1 1 family 5 prefers a;child 1 1 family 6 prefers a;"
            + "child 1 1 prefers a;child 1 1 family 6 prefers a;");
        Check.is("no one else", p.siblings(0), 0L);
        Check.is("one", p.siblings(1) + " " + p.siblings(3), "8 2");
        PlaceOffice all = new PlaceOffice();
        Check.load(all, "school a 1 1 1;");
        for (int child = 0; child < 40; child++) {
            all.addChild(1, 1, 50, false, 1);
        }
        Check.is("39 of them", all.siblings(0) + " " + all.siblings(39), ((1L << 40) - 2) + " " + ((1L << 39) - 1));
        noChild("P49", "siblings", "C");
    }

    /** What would be goes by care, families, zones, lots and lateness, as what is does. */
    private static void whoIsFirstInWhatWouldBe() {
        Check.about("P46 P50 P51 P52 P53 P54 by all that makes a child come first");
        String head = "school a 1 0 0 care sibling zone;zone a 0 1 9 9;pupil 8 a;pupil 3 a;";
        PlaceOffice o = new PlaceOffice();
        // The families of the load before are others: 1 and 2 change their places.
        Check.load(o, head + "child 0 0 prefers a;child 9 9 family 3 prefers a;child 1 1 prefers a;"
            + "child 9 9 care prefers a;");
        o.changedByAllocation();
        Check.load(o, head + "child 9 9 care prefers a;child 1 1 prefers a;child 9 9 family 8 prefers a;"
            + "child 0 0 prefers a;");
        for (int child = 0; child < 4; child++) {
            int rank = new int[] {0, 2, 1, 3}[child];
            Check.is("needed by " + child, o.neededCapacity(child, 0), rank + 1);
            Check.is("place of " + child, o.placeWith(child, 0, rank) + " " + o.placeWith(child, 0, rank + 1), "-1 0");
            Check.is("best of " + child, o.bestByOrder(child), rank == 0 ? 0 : -1);
        }
        Check.is("without 0", o.gainersWithout(0), 4L);
        int[] seeds = {0, 5, 77, 999};
        for (int seed : seeds) {
            Check.load(o, "seed " + seed + ";" + FULL);
            for (int child = 0; child < 40; child++) {
                int ahead = 0;
                for (int other = 0; other < 40; other++) {
                    int difference = SentencesOfTerms.lot(seed, other) - SentencesOfTerms.lot(seed, child);
                    ahead += difference < 0 || difference == 0 && other < child ? 1 : 0;
                }
                Check.is("seed " + seed + ", by the lot of " + child, o.neededCapacity(child, 0), ahead + 1);
            }
            o = new PlaceOffice();
        }
        PlaceOffice late = allocated("school a 1 0 0;child 9 9 prefers a;");
        late.addChild(0, 0, 0, false, 1);
        Check.is("late 0", late.placeWith(1, 0, 1) + " " + late.changedByAllocation() + " " + late.gainersWithout(1),
            "0 2 1");
        late.setLate(true);
        Check.is("late 1", late.placeWith(1, 0, 1) + " " + late.changedByAllocation() + " " + late.gainersWithout(1),
            "-1 0 0");
    }

    private static void p50() {
        Doc.says("P50", "Returns the number of children that would have another place (or none, or one) if an allocation was "
            + "made now.", "Returns the number of children.");
        Check.is("a new object", new PlaceOffice().changedByAllocation(), 0);
        PlaceOffice o = Check.office(ROW);
        Check.is("open: one each", o.changedByAllocation(), 3);
        o.allocate();
        Check.is("the same again", o.changedByAllocation(), 0);
        o.moveHome(0, 90, 0);
        Check.is("moved farther along the row", o.changedByAllocation(), changed(o));
        o.undo();
        o.moveHome(0, 90, 90);
        Check.is("0 would have none, 1 would have a", o.changedByAllocation(), 2);
        o.undo();
        o.appeal(2, 0);
        Check.is("by appeal no more: 2 and 1", places(o) + o.changedByAllocation(), "[0, 2, 0, 1]2");
        o.undo();
        o.setCapacity(0, 0);
        Check.is("fewer places", o.changedByAllocation(), changed(o));
        Check.is("it is not made", places(o) + o.count(11), "[0, -1, 2, 1]2");
        o.withdraw(1);
        Check.is("withdrawn ones have none either way", o.changedByAllocation(), changed(o));
        PlaceOffice full = Check.office("school a 40 1 1;" + "child1 1prefers a;".repeat(40));
        Check.is("forty", full.changedByAllocation(), 40);
    }

    /** The same by making the allocation, and undoing it. */
    private static int changed(PlaceOffice o) {
        int[] before = new int[o.count(1)];
        for (int child = 0; child < before.length; child++) {
            before[child] = o.placeOf(child);
        }
        o.allocate();
        int changed = 0;
        for (int child = 0; child < before.length; child++) {
            changed += before[child] == o.placeOf(child) ? 0 : 1;
        }
        o.undo();
        return changed;
    }

    private static void p51() {
        Doc.says("P51", "Returns where a child would have a place if an allocation was made now and the capacity of a school was "
            + "another one.", "`capacity`: 0 to 40", "Returns number of the school; -1 without a place.");
        PlaceOffice o = Check.office(ROW);
        for (int capacity = 0; capacity <= 4; capacity++) {
            StringBuilder s = new StringBuilder();
            o.setCapacity(0, capacity);
            o.allocate();
            String want = places(o);
            o.undo();
            o.undo();
            for (int child = 0; child < 4; child++) {
                s.append(child == 0 ? "[" : ", ").append(o.placeWith(child, 0, capacity));
            }
            Check.is("capacity " + capacity, s + "]", want);
        }
        Check.is("the capacity that it has", o.placeWith(0, 0, 1) + " " + o.placeWith(1, 0, 1), "0 -1");
        Check.is("0 of a", o.placeWith(0, 0, 0), -1);
        Check.is("40 of c", o.placeWith(1, 2, 40), 2);
        Check.is("nothing changes", o.school(0, 0) + " " + o.school(2, 0) + " " + o.count(8) + " " + o.count(11), "1 1 0 0");
        o.withdraw(0);
        Check.is("withdrawn", o.placeWith(0, 0, 40), -1);
        PlaceOffice p = allocated(ROW);
        p.appeal(2, 0);
        Check.is("of an allocation anew", p.placeWith(2, 0, 1) + " " + p.placeWith(2, 0, 40), "2 0");
        Doc.says("P51", "Throws `IllegalArgumentException` if capacity is out of range");
        for (int wrong : new int[] {-1, 41, 42, 255, Integer.MIN_VALUE, Integer.MAX_VALUE}) {
            Check.fails("capacity " + wrong, ARGUMENT, () -> o.placeWith(0, 0, wrong));
            Check.fails("capacity " + wrong + " of the last", ARGUMENT, () -> o.placeWith(3, 2, wrong));
        }
        neither("P51", "placeWith", "CSx");
    }

    private static void p52() {
        Doc.says("P52", "Finds the least capacity of a school with which a child would have a place there if an allocation was "
            + "made now.", "Returns the capacity, 0 to 40; -1 if there is none.");
        PlaceOffice o = Check.office(ROW + "child 9 9 prefers c;");
        for (int child = 0; child < 5; child++) {
            for (int school = 0; school < 3; school++) {
                int want = -1;
                for (int capacity = 40; capacity >= 0; capacity--) {
                    PlaceOffice fresh = Check.office(ROW + "child 9 9 prefers c;");
                    fresh.setCapacity(school, capacity);
                    fresh.allocate();
                    want = fresh.placeOf(child) == school ? capacity : want;
                }
                Check.is("child " + child + " at " + school, o.neededCapacity(child, school), want);
            }
        }
        Check.is("a for all, one after the other", o.neededCapacity(0, 0) + " " + o.neededCapacity(1, 0) + " "
            + o.neededCapacity(2, 0) + " " + o.neededCapacity(3, 0), "1 2 3 4");
        Check.is("it has what it prefers", o.neededCapacity(0, 1), -1);
        Check.is("it does not want it", o.neededCapacity(4, 0), -1);
        Check.is("nothing changes", o.school(0, 0) + " " + o.count(8), "1 0");
        o.setCapacity(0, 0);
        Check.is("the present capacity does not matter", o.neededCapacity(0, 0) + " " + o.neededCapacity(3, 0), "1 4");
        o.withdraw(0);
        Check.is("withdrawn", o.neededCapacity(0, 0) + " " + o.neededCapacity(1, 0), "-1 1");
        PlaceOffice full = Check.office(FULL);
        boolean[] seen = new boolean[41];
        for (int child = 0; child < 40; child++) {
            seen[full.neededCapacity(child, 0)] = true;
        }
        for (int capacity = 0; capacity <= 40; capacity++) {
            Check.is("capacity " + capacity + " is needed by one", seen[capacity], capacity > 0);
        }
        neither("P52", "neededCapacity", "CS");
    }

    private static void p53() {
        Doc.says("P53", "Finds who would have a better place, by their own preferences, if an allocation was made now without a "
            + "child, than if one was made with it.", "Returns the set of these children, as a bit mask.");
        PlaceOffice o = Check.office(ROW);
        // With all: a 0, b 3, c 2. Without 0: a 1, b 3, c 2. Without 1: the same. Without 2: c 1. Without 3: b 2, c 1.
        long[] due = {0b0010L, 0L, 0b0010L, 0b0110L};
        for (int child = 0; child < 4; child++) {
            Check.is("without " + child, o.gainersWithout(child), due[child]);
        }
        Check.is("nothing changes", o.count(3) + " " + o.count(8), "0 0");
        o.allocate();
        o.moveHome(0, 99, 99);
        // With all: a 1, b 3, c 2. Without 1: a 2, b 3, c 0.
        Check.is("of allocations of now", o.gainersWithout(0) + " " + o.gainersWithout(1), "0 5");
        o.withdraw(1);
        Check.is("withdrawn before", o.gainersWithout(1), 0L);
        PlaceOffice full = Check.office(FULL);
        long all = 0L;
        for (int child = 0; child < 40; child++) {
            all |= full.gainersWithout(child);
        }
        int first = 0;
        int next = 0;
        for (int child = 0; child < 40; child++) {
            first = full.neededCapacity(child, 0) == 1 ? child : first;
            next = full.neededCapacity(child, 0) == 2 ? child : next;
        }
        Check.is("only the one that is next", all, 1L << next);
        Check.is("without the first one", full.gainersWithout(first), 1L << next);
        PlaceOffice two = Check.office("school a 1 1 1;" + "child2 2prefers a;".repeat(40));
        two.moveHome(38, 1, 1);
        two.moveHome(39, 1, 2);
        Check.is("the last bit", two.gainersWithout(38) + " " + two.gainersWithout(39), (1L << 39) + " 0");
        noChild("P53", "gainersWithout", "C");
    }

    private static void p54() {
        Doc.says("P54", "Finds the best preference that a child could get by telling its preferences in another order, if an "
            + "allocation was made now.",
            "Returns the place of the school in its true preferences, from 0; -1 if it would have no place whatever it told.");
        PlaceOffice o = Check.office(ROW);
        Check.is("first, none, third, second", o.bestByOrder(0) + " " + o.bestByOrder(1) + " " + o.bestByOrder(2) + " "
            + o.bestByOrder(3), "0 -1 2 1");
        Check.is("nothing changes", o.count(8) + " " + o.preference(2, 0), "0 0");
        o.allocate();
        o.moveHome(0, 99, 99);
        Check.is("of an allocation of now", o.bestByOrder(0) + " " + o.bestByOrder(1), "-1 0");
        o.withdraw(1);
        Check.is("withdrawn", o.bestByOrder(1), -1);
        PlaceOffice one = Check.office("school a 1 1 1;child 1 1 prefers a;child 9 9 prefers a;");
        Check.is("one preference", one.bestByOrder(0) + " " + one.bestByOrder(1), "0 -1");
        one.setCapacity(0, 0);
        Check.is("no places", one.bestByOrder(0), -1);
        PlaceOffice four = Check.office("school a 0 0 0;school b 0 0 0;school c 0 0 0;school d 1 0 0;"
            + "child 1 1 prefers a b c d;child 1 1 prefers b;");
        Check.is("the fourth", four.bestByOrder(0) + " " + four.bestByOrder(1), "3 -1");
        // All orders, told by texts of their own.
        String[] orders = {"a b c", "a c b", "b a c", "b c a", "c a b", "c b a"};
        String head = "school a 1 0 0;school b 1 10 0;school c 1 20 0;child 9 0 prefers b a;child 2 0 prefers a b c;"
            + "child 19 0 prefers b c;child 12 3 prefers ";
        int best = 9;
        for (String order : orders) {
            int place = allocated(head + order + ";").placeOf(3);
            best = place >= 0 ? Math.min(best, place) : best;
        }
        Check.is("of six orders", Check.office(head + orders[0] + ";").bestByOrder(3), best == 9 ? -1 : best);
        noChild("P54", "bestByOrder", "C");
    }

    private static void p55p56() {
        Doc.says("P55", "Writes a school to the output, in place of what it had: its name, a colon, then for each child that has "
            + "a place there, in the order in which they come first, a space and its number, followed by a star if it is one "
            + "by appeal; then a slash, and for each child on the waiting list a space and its number.",
            "Returns the number of bytes.");
        PlaceOffice o = Check.office("appeals 2;school abcdef 1 0 0;school z 1 0 0;" + "child 9 9 prefers z;".repeat(9)
            + "child 3 0 prefers abcdef;child 1 0 prefers abcdef;child 2 0 prefers abcdef z;child 4 0 prefers abcdef;");
        Check.is("open", o.printSchool(0) + Whole.output(o), "8abcdef:/");
        o.allocate();
        Check.is("one and three", o.printSchool(0) + Whole.output(o), "19abcdef: 10/ 11 9 12");
        o.appeal(9, 0);
        o.appeal(12, 0);
        Check.is("with stars", o.printSchool(0) + Whole.output(o), "21abcdef: 10 9* 12*/ 11");
        Check.is("a shorter one in place of it", o.printSchool(1) + Whole.output(o), o.school(1, 9) * 2 + 6
            + "z: 11/" + waiting(o, 1));
        o.withdraw(11);
        o.withdraw(10);
        Check.is("none waits", o.printSchool(0) + Whole.output(o), "15abcdef: 9* 12*/");
        PlaceOffice row = Check.office("school abcdef 20 1 1;" + "child1 1prefers abcdef;".repeat(36));
        StringBuilder due = new StringBuilder("abcdef:");
        for (int child = 36; child < 40; child++) {
            row.addChild(1, 1, 0, false, 1);
        }
        for (int child = 0; child < 40; child++) {
            row.moveHome(child, 1, child + 2);
            due.append(child == 20 ? "/ " : " ").append(child);
        }
        row.allocate();
        Check.is("each number", row.printSchool(0) + Whole.output(row), 118 + due.toString());
        PlaceOffice most = Check.office("appeals 9;school abcdef 0 1 1;" + "child1 1prefers abcdef;".repeat(36));
        for (int child = 36; child < 40; child++) {
            most.addChild(1, 1, 0, false, 1);
        }
        most.allocate();
        Check.is("forty wait", most.printSchool(0), 8 + 10 * 2 + 30 * 3);
        // 39 appeals by claims are the most that there can be beside one that holds its place without.
        most.setCapacity(0, 1);
        most.moveHome(most.holder(0, 0), 99, 99);
        for (int child = 0; child < 40; child++) {
            if (most.placeOf(child) < 0) {
                Check.is("by a claim", most.appeal(child, 0), 2);
            }
        }
        Check.is("39 stars", most.printSchool(0), 8 + 10 * 2 + 30 * 3 + 39);
        Check.is("its end", most.outputByte(156) + " " + most.outputByte(157), (int) '/' + " -1");
        noSchool("P55", "printSchool", "S");
    }

    private static String waiting(PlaceOffice o, int school) {
        StringBuilder s = new StringBuilder();
        for (int i = 0; i < o.school(school, 9); i++) {
            s.append(' ').append(o.waiting(school, i));
        }
        return s.toString();
    }

    private static void p55Stays() {
        Doc.says("P55", "The output does not belong to what is undone or saved.");
        PlaceOffice o = allocated(ROW);
        o.saveState();
        o.setCapacity(0, 2);
        o.printSchool(0);
        String text = Whole.output(o);
        Check.is("text", text, "a: 0 1/ 2 3");
        o.undo();
        Check.is("undone", Whole.output(o), text);
        o.restoreState();
        Check.is("restored", Whole.output(o), text);
        o.saveState();
        o.allocate();
        Check.is("saved, and changed", Whole.output(o), text);
        Check.load(o, "x");
        Check.is("an error", Whole.output(o), text);
        Check.load(o, "");
        Check.is("a load", Whole.output(o), text);
        Check.fails("no school", INDEX, () -> o.printSchool(0));
        Check.is("a call that throws", Whole.output(o), text);
        Doc.says("P56", "Returns a byte of the output.", "`index`: index of the byte, from 0",
            "Returns the byte; -1 if there is no such byte.");
        for (int i = 0; i < text.length(); i++) {
            Check.is("byte " + i, o.outputByte(i), (int) text.charAt(i));
        }
        for (int wrong : new int[] {-1, -2, text.length(), text.length() + 1, 199, 200, 201, 900, Integer.MIN_VALUE,
            Integer.MAX_VALUE}) {
            Check.is("byte " + wrong, o.outputByte(wrong), -1);
        }
        PlaceOffice none = new PlaceOffice();
        for (int wrong : OUTSIDE) {
            Check.is("of none, byte " + wrong, none.outputByte(wrong), -1);
        }
        Check.is("of none, byte 0", none.outputByte(0), -1);
        PlaceOffice shorter = allocated("school abcdef 1 0 0;school q 1 0 0;child 1 1 prefers abcdef;");
        shorter.printSchool(0);
        Check.is("the shortest one", shorter.printSchool(1) + " " + shorter.outputByte(2) + " " + shorter.outputByte(3),
            "3 47 -1");
    }

    private static void p57() {
        Doc.says("P57", "Undoes the latest change that was not undone.",
            "Returns the number of changes that can still be undone; -1 if there was none.");
        PlaceOffice o = new PlaceOffice();
        Check.is("none", o.undo() + " " + o.undo(), "-1 -1");
        Check.load(o, "school a 0 0 0;");
        Check.is("none behind a load", o.undo(), -1);
        o.setCapacity(0, 1);
        o.setCapacity(0, 2);
        o.setCapacity(0, 3);
        Check.is("one by one", o.undo() + " " + o.school(0, 0), "2 2");
        o.setCapacity(0, 4);
        Check.is("a new one in its place", o.undo() + " " + o.school(0, 0), "2 2");
        Check.is("the one before", o.undo() + " " + o.school(0, 0), "1 1");
        Check.is("the first one", o.undo() + " " + o.school(0, 0), "0 0");
        Check.is("none is left", o.undo() + " " + o.school(0, 0) + " " + o.count(11), "-1 0 0");
        for (int i = 1; i <= 11; i++) {
            o.setCapacity(0, i);
        }
        Check.is("ten of eleven", o.count(11), 10);
        for (int i = 9; i >= 0; i--) {
            Check.is("undo", o.undo() + " " + o.school(0, 0), i + " " + (i + 1));
        }
        Check.is("the first one stays", o.undo() + " " + o.school(0, 0), "-1 1");
        // Again and again ten: the row of ten goes round.
        for (int round = 0; round < 3; round++) {
            for (int i = 0; i < 7; i++) {
                o.setCapacity(0, 10 * round + i);
            }
            for (int i = 5; i >= 3; i--) {
                Check.is("round " + round, o.undo() >= 0 ? o.school(0, 0) : -1, 10 * round + i);
            }
        }
        Check.is("ten, and three of them undone", o.count(11), 7);
        Check.is("a refused call is none", Whole.answer(o, "setCapacity", 0, 41) + " " + o.count(11), ARGUMENT + " 7");
    }

    private static void p58() {
        Doc.says("P58", "Saves everything but the input buffer, the reported error, the output and the changes that can be "
            + "undone, in place of an earlier saved state.", "Returns the number of children.");
        PlaceOffice o = new PlaceOffice();
        Check.is("none", o.saveState(), 0);
        Check.load(o, ROW);
        Check.is("four", o.saveState(), 4);
        o.addChild(1, 1, 0, false, 1);
        Check.is("five", o.saveState(), 5);
        o.withdraw(0);
        Check.is("withdrawn ones, too", o.saveState() + " " + o.count(11), "5 2");
        Check.is("the latest one", o.restoreState() + " " + o.count(3), "5 1");
        Check.is("forty", Check.office(FULL).saveState(), 40);
        Whole.same("saving changes nothing else", Whole.but(Whole.Part.SAVED), SentencesOfTerms::lively, p -> {
            SentencesOfTerms.lively(p);
            Check.is("children", p.saveState(), 5);
        });
        // Everything: the state at the save, whatever followed; and the input, the error and the output of later.
        Whole.same("what is saved", Whole.but(Whole.Part.UNDO), p -> {
            SentencesOfTerms.lively(p);
            p.saveState();
            after(p);
        }, p -> {
            SentencesOfTerms.lively(p);
            p.saveState();
            p.allocate();
            p.addChild(7, 7, 7, true, 2);
            p.withdraw(2);
            p.setCapacity(0, 9);
            p.setLate(false);
            p.moveHome(0, 9, 9);
            after(p);
            p.restoreState();
        });
    }

    private static void after(PlaceOffice p) {
        Check.load(p, "school a 1 1 1;school");
        Check.append(p, "late 1;");
        PlaceOffice other = Check.office("school qqqq 1 1 1;");
        Check.is("another object has nothing to do with it", other.printSchool(0), 6);
    }

    private static void p59() {
        Doc.says("P59", "Restores the saved state, which stays saved.", "Returns the number of children.");
        PlaceOffice o = allocated(ROW);
        o.saveState();
        for (int i = 0; i < 3; i++) {
            o.addChild(1, 1, 0, false, 1);
            o.withdraw(0);
            o.setLate(true);
            Check.is("restored " + i, o.restoreState() + places(o) + o.count(7), "4[0, -1, 2, 1]0");
        }
        Check.is("it can be saved again", o.addChild(1, 1, 0, false, 1) + " " + o.saveState() + " " + o.restoreState(),
            "4 5 5");
        Doc.says("P59", "Nothing can be undone then.");
        PlaceOffice p = allocated(ROW);
        p.saveState();
        p.withdraw(0);
        Check.is("two changes", p.count(11), 2);
        p.restoreState();
        Check.is("none", p.count(11) + " " + p.undo() + places(p), "0 -1[0, -1, 2, 1]");
        p.withdraw(0);
        Check.is("one behind it", p.count(11) + " " + p.undo() + " " + p.undo() + places(p), "1 0 -1[0, -1, 2, 1]");
        p.restoreState();
        Check.is("restored twice", p.restoreState() + " " + p.undo(), "4 -1");
        PlaceOffice ten = Check.office("school a 0 0 0;");
        ten.saveState();
        for (int i = 1; i < 14; i++) {
            ten.setCapacity(0, i);
        }
        ten.restoreState();
        Check.is("none of ten", ten.undo() + " " + ten.school(0, 0), "-1 0");
        ten.setCapacity(0, 5);
        Check.is("one change behind it", ten.undo() + " " + ten.school(0, 0) + " " + ten.undo(), "0 0 -1");
    }

    private static void p59Refused() {
        Doc.says("P59", "Throws `IllegalStateException` if no state is saved");
        PlaceOffice o = new PlaceOffice();
        Check.fails("a new object", STATE, o::restoreState);
        Check.load(o, ROW);
        Check.fails("behind a load", STATE, o::restoreState);
        o.allocate();
        o.undo();
        Check.fails("behind changes", STATE, o::restoreState);
        o.saveState();
        Check.load(o, "x");
        Check.is("behind an error it stays saved", o.restoreState(), 4);
        Check.load(o, "");
        Check.fails("an empty text", STATE, o::restoreState);
        o.saveState();
        Check.is("the empty office", o.restoreState(), 0);
        // The state that a load told is another one than the saved one of the office before.
        Check.load(o, ROW);
        o.saveState();
        Check.load(o, "school q 3 4 5;");
        Check.fails("of the office before", STATE, o::restoreState);
        Check.is("nothing came back", o.count(0) + " " + o.count(1) + " " + o.school(0, 1), "1 0 4");
    }

    static void run() {
        p32();
        p33p34();
        p35p47();
        p36();
        p37();
        p38();
        p39();
        p40();
        p41();
        p42();
        p43p44();
        p45();
        p46();
        p48();
        p49();
        whoIsFirstInWhatWouldBe();
        p50();
        p51();
        p52();
        p53();
        p54();
        p55p56();
        p55Stays();
        p57();
        p58();
        p59();
        p59Refused();
    }
}
