import java.util.ArrayList;
import java.util.List;
import java.util.function.ToIntFunction;

/** The sentences of the setup text, with the cases at their edges: each error, its place, and what it leaves. */
final class SentencesOfSetup {
    private static final String A = "school a 1 1 1;";
    private static final String FIVE = "school a 1 1 1;school b 1 1 1;school c 1 1 1;school d 1 1 1;school e 1 1 1;";
    private static final String[] RESERVED = {"school", "zone", "pupil", "child", "seed", "appeals", "late", "care",
        "sibling", "family", "prefers"};
    private static final String CHILD = "child1 1prefers a;";
    private static final String PUPIL = "pupil1a;";

    private SentencesOfSetup() {
    }

    private static String shown(String text) {
        return text.length() < 90 ? text : text.substring(0, 20) + " .. " + text.substring(text.length() - 50);
    }

    static void error(String text, int code, int offset) {
        PlaceOffice o = new PlaceOffice();
        int answer = Check.load(o, text);
        Check.is("load of " + shown(text), answer + " " + o.errorCode() + " " + o.errorOffset(),
            "-1 " + code + " " + offset);
    }

    static PlaceOffice loads(String text, int children) {
        PlaceOffice o = new PlaceOffice();
        int answer = Check.load(o, text);
        Check.is("load of " + shown(text), answer + " " + o.errorCode() + " " + o.errorOffset(), children + " 0 -1");
        return o;
    }

    /** A text with an error where its sign | stands. */
    private static void marked(int code, String text) {
        int at = text.indexOf('|');
        error(text.substring(0, at) + text.substring(at + 1), code, at);
    }

    private static void nineHundredBytes() {
        Doc.says("T", "The input buffer holds at most 900 bytes.");
        loads(A + CHILD.repeat(39) + " ".repeat(900 - 15 - 39 * 18 - 18) + CHILD, 40);
        loads("\n".repeat(900), 0);
        error(" ".repeat(899) + "x", 1, 899);
        error(" ".repeat(893) + "late 1", 1, 899);
        error(" ".repeat(894) + "late 1", 1, 900);
        loads(" ".repeat(893) + "late 1;", 0);
        PlaceOffice o = new PlaceOffice();
        Check.append(o, " ".repeat(900));
        Check.is("20 more", o.appendInput(0, 0, 0, 0, 0), -1);
        Check.is("none of these", o.loadOffice() + " " + o.errorOffset(), "0 -1");
    }

    private static void statementsAndSemicolons() {
        Doc.says("T", "The text is a sequence of statements, each followed by a semicolon.");
        String[] statements = {"school b 1 1 1 care", "zone a 1 1 1 1", "pupil 1 a", "child 1 1 prefers a", "seed 1",
            "appeals 1", "late 1"};
        for (String statement : statements) {
            loads(A + statement + ";", statement.startsWith("child") ? 1 : 0);
            error(A + statement, 1, A.length() + statement.length());
            error(A + statement + " \n", 1, A.length() + statement.length() + 2);
            error(A + statement + ";;", 1, A.length() + statement.length() + 1);
            error(A + statement + " school c 1 1 1;", 1, A.length() + statement.length() + 1);
            error(A + ";" + statement + ";", 1, A.length());
        }
        marked(1, "|;");
        marked(1, " |;");
        marked(1, A + "child 1 1 prefers a |pupil 1 a;");
        marked(1, A + "school b 1 1 1 care |late 1;");
        loads("", 0);
    }

    private static void wordsThatBeginAStatement() {
        Check.about("T a token that cannot stand at its place, ahead of a statement");
        for (String word : new String[] {"care", "sibling", "family", "prefers", "a", "x", "schoo", "schools", "lat",
            "latee", "seeds", "see", "zones", "pupils", "childs", "appeal", "appealss", "1", "99", "1000", "#", ";",
            "School", "LATE"}) {
            marked(1, A + "|" + word + " 1 1 1;");
            marked(1, "|" + word);
        }
        loads(A, 0);
    }

    private static void numberAt(String head, String tail, int least, int most, ToIntFunction<PlaceOffice> read) {
        for (int value = 0; value < 1000; value++) {
            for (int digits = 1; digits <= 3; digits++) {
                String text = String.format("%0" + digits + "d", value);
                if (value < least || value > most) {
                    error(head + text + tail, 2, head.length());
                } else {
                    PlaceOffice o = loads(head + text + tail, (head + tail).contains("child") ? 1 : 0);
                    if (read != null) {
                        Check.is(head + text + tail, read.applyAsInt(o), value);
                    }
                }
            }
        }
        for (String wrong : new String[] {"0000", "0001", "1000", "9999", "00000000000000000001", "4294967297", "x",
            "care", ";", "-1", "+1", "#", "", "a", "prefers"}) {
            if (!wrong.isEmpty() || !tail.matches(" \\d.*")) {
                error(head + wrong + tail, 1, head.length() + (wrong.isEmpty() && tail.startsWith(" ") ? 1 : 0));
            }
        }
        error(head, 1, head.length());
    }

    private static void numbers() {
        Doc.says("T", "N stands for a number:");
        numberAt("school a ", " 1 1;", 0, 40, o -> o.school(0, 0));
        numberAt("school a 1 ", " 1;", 0, 99, o -> o.school(0, 1));
        numberAt("school a 1 1 ", ";", 0, 99, o -> o.school(0, 2));
        numberAt("school a 1 1 ", " zone;", 0, 99, o -> o.school(0, 2));
        numberAt(A + "zone a ", " 0 99 99;", 0, 99, null);
        numberAt(A + "zone a 0 ", " 99 99;", 0, 99, null);
        numberAt(A + "zone a 0 0 ", " 0;", 0, 99, null);
        numberAt(A + "zone a 0 0 0 ", ";", 0, 99, null);
        numberAt(A + "pupil ", " a;", 1, 99, null);
        numberAt(A + "child ", " 1 prefers a;", 0, 99, o -> o.child(0, 0));
        numberAt(A + "child 1 ", " prefers a;", 0, 99, o -> o.child(0, 1));
        numberAt(A + "child 1 1 care family ", " prefers a;", 1, 99, o -> o.child(0, 2));
        numberAt("seed ", ";", 0, 999, null);
        numberAt("appeals ", ";", 0, 9, o -> o.count(6));
        numberAt("late ", ";", 0, 1, o -> o.count(7));
    }

    private static void schoolStatements() {
        Doc.says("T", "school NAME N N N { RULE } capacity (0 to 40), x and y (0 to 99 each), and the rules: care, sibling, "
            + "zone");
        PlaceOffice o = loads("school a 0 0 0;school b 40 99 99 zone sibling care;school c 1 0 99;", 0);
        String[] due = {"0 0 0 0", "40 99 99 3", "1 0 99 0"};
        for (int school = 0; school < 3; school++) {
            Check.is("school " + school, o.school(school, 0) + " " + o.school(school, 1) + " " + o.school(school, 2) + " "
                + o.school(school, 3), due[school]);
        }
        marked(2, "school a |41 100 100;");
        marked(2, "school a 40 |100 100;");
        marked(2, "school a 40 99 |100;");
        marked(1, "school a 1 1 1 |1;");
        marked(1, "school a 1 1|;");
        marked(1, "school a 1|;");
        marked(1, "school a|;");
        marked(1, "school|;");
        marked(1, "school a 1 1 |care;");
        marked(1, "school a 1 1 1 care |a;");
        marked(1, "school a 1 1 1 |family;");
        marked(1, "school a 1 1 1 care sibling zone |care;");
        marked(1, "school a 1 1 1 care sibling zone |x;");
        marked(1, "school a 1 1 1 care sibling zone|");
    }

    private static void zoneStatements() {
        Doc.says("T", "zone NAME N N N N the zone of a school: the least x and y, the greatest x and y (0 to 99 each, the "
            + "greatest ones not less than the least ones)");
        marked(2, A + "zone a 5 9 |4 9;");
        marked(2, A + "zone a 9 5 9 |4;");
        marked(2, A + "zone a 99 99 |98 98;");
        marked(2, A + "zone a 1 0 |0 0;");
        marked(2, A + "zone a |100 0 0 0;");
        marked(2, A + "zone a 0 |100 0 0;");
        marked(2, A + "zone a 0 0 |100 0;");
        marked(2, A + "zone a 0 0 0 |100;");
        loads(A + "zone a 5 9 5 9;", 0);
        loads(A + "zone a 99 0 99 0;", 0);
        loads(A + "zone a 0 99 0 99;", 0);
        PlaceOffice o = loads("school a 1 1 1;school b 1 1 1;zone b 10 20 11 22;child 10 22 prefers a;child 11 20 prefers a;"
            + "child 9 20 prefers a;child 12 20 prefers a;child 10 19 prefers a;child 10 23 prefers a;", 6);
        for (int child = 0; child < 6; child++) {
            Check.is("in the zone, child " + child, o.meets(child, 1, 2), child < 2);
        }
        Check.is("of b alone", o.school(0, 4) + " " + o.school(1, 4), "0 1");
        marked(1, A + "zone a 1 1 1|;");
        marked(1, A + "zone a 1 1 1 1 |1;");
        marked(1, A + "zone a|;");
        marked(1, A + "zone|;");
    }

    private static void pupilStatements() {
        Doc.says("T", "pupil N NAME a pupil: the family (1 to 99) and the school");
        PlaceOffice o = loads("school a 1 1 1;school b 1 1 1;pupil 1 b;pupil 99 a;child 1 1 family 1 prefers a;"
            + "child 1 1 family 99 prefers a;", 2);
        Check.is("of the families 1 and 99", o.meets(0, 0, 1) + " " + o.meets(0, 1, 1) + " " + o.meets(1, 0, 1) + " "
            + o.meets(1, 1, 1), "false true true false");
        marked(2, A + "pupil |0 a;");
        marked(2, A + "pupil |100 a;");
        marked(1, A + "pupil 1|;");
        marked(1, A + "pupil |a 1;");
        marked(1, A + "pupil 1 a |b;");
        marked(1, A + "pupil 1 a |1;");
    }

    private static void childStatements() {
        Doc.says("T", "child N N [ \"care\" ] [ \"family\" N ] \"prefers\" NAME { NAME }",
            "a child: x and y (0 to 99 each), the family 1 to 99, and 1 to 4 preferences");
        PlaceOffice o = loads(FIVE + "child 0 0 prefers e;child 99 99 care prefers a b;child 0 99 family 99 prefers d e a;"
            + "child 99 0 care family 1 prefers d c b a;", 4);
        String[] due = {"0 0 0 0 1", "99 99 0 1 2", "0 99 99 0 3", "99 0 1 1 4"};
        for (int child = 0; child < 4; child++) {
            Check.is("child " + child, o.child(child, 0) + " " + o.child(child, 1) + " " + o.child(child, 2) + " "
                + o.child(child, 3) + " " + o.child(child, 5), due[child]);
        }
        marked(1, A + "child 1 1 family 1 |care prefers a;");
        marked(1, A + "child 1 1 care |care prefers a;");
        marked(1, A + "child 1 1 family 1 |family 2 prefers a;");
        marked(1, A + "child 1 1 family |prefers a;");
        marked(1, A + "child 1 1 care family 1|;");
        marked(1, A + "child 1 1|;");
        marked(1, A + "child 1 1 |a;");
        marked(1, A + "child 1 1 prefers|;");
        marked(1, A + "child 1 1 prefers |1;");
        marked(1, A + "child 1 1 prefers a |prefers a;");
        marked(1, A + "child 1 1 prefers a |care;");
        marked(1, A + "child 1 |prefers a;");
        marked(1, A + "child |care 1 1 prefers a;");
        marked(1, A + "child 1 1 |1 prefers a;");
        marked(2, A + "child 1 1 family |0 prefers a;");
        marked(2, A + "child 1 1 family |100 prefers a;");
        marked(1, FIVE + "child 1 1 prefers a b c d |e;");
    }

    private static void settingStatements() {
        Doc.says("T", "seed N 0 to 999; 0 without it", "appeals N the setting appeals, 0 to 9; 0 without it",
            "late N the setting late, 0 or 1; 0 without it");
        String child = A + "child 1 1 prefers a;";
        PlaceOffice none = loads(child, 1);
        Check.is("without them", none.child(0, 4) + " " + none.count(6) + " " + none.count(7),
            SentencesOfTerms.lot(0, 0) + " 0 0");
        PlaceOffice least = loads("seed 0;appeals 0;late 0;" + child, 1);
        Check.is("least ones", least.child(0, 4) + " " + least.count(6) + " " + least.count(7),
            SentencesOfTerms.lot(0, 0) + " 0 0");
        PlaceOffice most = loads("seed 999;appeals 9;late 1;" + child, 1);
        Check.is("greatest ones", most.child(0, 4) + " " + most.count(6) + " " + most.count(7),
            SentencesOfTerms.lot(999, 0) + " 9 1");
        marked(1, "seed |1000;");
        marked(2, "seed 999;appeals |10;");
        marked(2, "late |2;");
    }

    private static void onceEach() {
        Doc.says("T", "The statements seed, appeals and late may each occur once, seed only before the first child; a school "
            + "has at most one zone.");
        String[] settings = {"seed 1;", "appeals 1;", "late 1;"};
        for (String one : settings) {
            loads(one, 0);
            for (String other : settings) {
                if (one.equals(other)) {
                    marked(4, one + "|" + other);
                    marked(4, one + A + "|" + other);
                } else {
                    loads(one + other, 0);
                }
            }
        }
        loads("late 1;appeals 1;seed 1;" + A + CHILD, 1);
        loads(A + CHILD + "late 1;appeals 1;", 1);
        marked(4, A + CHILD + "|seed 1;");
        marked(4, "seed 1;" + A + CHILD + "|seed 1;");
        loads(A + "zone a 1 1 1 1;pupil 1 a;seed 5;" + CHILD, 1);
        marked(3, A + "zone a 1 1 1 1;zone |a 1 1 1 1;");
        loads(FIVE + "zone e 1 1 1 1;zone a 1 1 1 1;zone c 1 1 1 1;", 0);
        // What a load that did not succeed told is forgotten.
        PlaceOffice o = new PlaceOffice();
        Check.load(o, "seed 1;appeals 1;late 1;" + A + "zone a 1 1 1 1;" + CHILD + "x");
        Check.is("all of them again", Check.load(o, "seed 1;appeals 1;late 1;" + A + "zone a 1 1 1 1;" + CHILD), 1);
        Check.is("and again", Check.load(o, "late 0;appeals 2;seed 3;" + A + "zone a 1 1 1 1;" + CHILD), 1);
    }

    private static void names() {
        Doc.says("T", "A NAME is a word of 1 to 6 letters that is none of these words: school, zone, pupil, child, seed, "
            + "appeals, late, care, sibling, family, prefers.");
        for (String word : RESERVED) {
            marked(1, "school |" + word + " 1 1 1;");
            marked(1, A + "zone |" + word + " 1 1 1 1;");
            marked(1, A + "pupil 1 |" + word + ";");
            marked(1, A + "child 1 1 prefers |" + word + ";");
            marked(1, A + "child 1 1 prefers a |" + word + ";");
            marked(1, FIVE + "child 1 1 prefers a b c |" + word + ";");
            String longer = word + "s";
            String shorter = word.substring(1);
            for (String near : new String[] {longer, shorter}) {
                if (near.length() > 6) {
                    marked(1, "school |" + near + " 1 1 1;");
                } else {
                    loads("school " + near + " 1 1 1;child 1 1 prefers " + near + ";", 1);
                }
            }
        }
        String[] all = {"a", "aa", "aaa", "aaaa", "aaaaa", "aaaaaa", "z", "zzzzzz"};
        StringBuilder text = new StringBuilder();
        for (String name : all) {
            text.append("school ").append(name).append(" 1 1 1;");
        }
        PlaceOffice o = loads(text + "child 1 1 prefers aaaaaa zzzzzz aaa a;", 1);
        for (int school = 0; school < 8; school++) {
            Check.is("name", Check.printed(o, school), all[school] + ":/");
        }
        Check.is("preferences", "" + o.preference(0, 0) + o.preference(0, 1) + o.preference(0, 2) + o.preference(0, 3),
            "5720");
        Check.is("all letters", Check.printed(Check.office("school ghijkl 1 1 1;school mnopqr 1 1 1;"
            + "school stuvwx 1 1 1;school yzabcd 1 1 1;school ef 1 1 1;"), 2), "stuvwx:/");
        marked(1, "school |aaaaaaa 1 1 1;");
        marked(1, A + "zone |aaaaaaa 1 1 1 1;");
        marked(1, A + "pupil 1 |aaaaaaa;");
        marked(1, A + "child 1 1 prefers |aaaaaaa;");
        marked(1, A + "child 1 1 prefers a |aaaaaaa;");
        marked(1, "school |zzzzzzzzzzzzzzzzzzzzzzzzzzzzzzzzz 1 1 1;");
        for (String none : new String[] {"1", ";", "#", "A", "1a", "_"}) {
            marked(1, "school |" + none + " 1 1 1;");
            marked(1, A + "pupil 1 |" + none + ";");
        }
        marked(1, "school a|B 1 1 1;");
    }

    private static void tokens() {
        Doc.says("T", "Tokens are words (maximal runs of the letters a to z), numbers (maximal runs of digits, 1 to 3 of them) "
            + "and semicolons.");
        loads("late1;seed1;appeals9;school a1 2 3care zone;zone a1 2 3 4;pupil5a;child1 2care family7prefers a;", 1);
        PlaceOffice o = loads("school abc12 34 56zone sibling;", 0);
        Check.is("runs", Check.printed(o, 0) + o.school(0, 0) + o.school(0, 1) + o.school(0, 2), "abc:/123456");
        marked(1, "|latelate 1;");
        marked(1, "late |1234;");
        marked(2, "late |123;");
        marked(2, "late |12;");
        marked(1, "late 1 |2;");
        marked(1, "|la te 1;");
        marked(1, A + "child 1 1 |careprefers a;");
        marked(1, A + "child 1 1 |prefersa;");
        marked(1, A + "child 1 1 |carefamily 1 prefers a;");
        marked(1, "|schoola 1 1 1;");
        marked(1, "school a 1 1 1 |carezone;");
        marked(2, "school a |111 1;");
    }

    private static void bytes() {
        Doc.says("T", "Spaces (32) and line feeds (10) may stand between tokens.");
        for (int sign = 0; sign < 256; sign++) {
            String s = "" + (char) sign;
            boolean blank = sign == 32 || sign == 10;
            boolean letter = sign >= 'a' && sign <= 'z';
            boolean digit = sign >= '0' && sign <= '9';
            if (blank) {
                loads("late" + s + "1" + s + ";" + s, 0);
                loads(s + s + "late" + s + s + "1" + s + s + ";" + s + s, 0);
                loads(s, 0);
            } else {
                error("late 1" + s + "1;", digit ? 2 : 1, digit ? 5 : sign == ';' ? 7 : 6);
                error(s + "late 1;", 1, 0);
                error("late 1;" + s, 1, 7);
                if (sign == '0') {
                    loads("late" + s + "1;", 0);
                } else {
                    error("late" + s + "1;", digit ? 2 : 1, letter ? 0 : 4);
                }
                error("late 0;" + s + "seed 1;", 1, 7);
            }
        }
        for (char blank : new char[] {' ', '\n'}) {
            String text = "seed 1;appeals 2;late 1;school a 3 4 5 care sibling zone;zone a 1 2 3 4;pupil 5 a;"
                + "child 6 7 care family 8 prefers a;";
            String wide = text.replace(" ", ("" + blank).repeat(3)).replace(";", blank + ";" + blank);
            Whole.same("blanks " + (int) blank, Whole.ALL, o -> Check.load(o, text), o -> Check.load(o, wide));
        }
    }

    private static void theFirstError() {
        Doc.says("T", "A text is parsed from left to right, and the first error met is reported, with an offset in bytes from "
            + "0; if several errors apply to one token, the one with the smallest code:");
        // Wrong statements, each with the place of its error: any of them ahead of any other one is told.
        String[] wrong = {"pupil 1 |;", "pupil |100 a;", "zone |b 1 1 1 1;", "|late 1;", "|;", "appeals |99;",
            "pupil 1 |q;", "|seed 5;"};
        int[] codes = {1, 2, 3, 4, 1, 2, 3, 4};
        String head = "seed 1;late 0;" + A;
        for (int i = 0; i < wrong.length; i++) {
            marked(codes[i], head + wrong[i]);
            for (String other : wrong) {
                marked(codes[i], head + wrong[i] + other.replace("|", ""));
            }
        }
        marked(1, "late|");
        marked(1, "|x");
        // Several errors of one token.
        marked(1, "school a 1 1 1;school |toolong 1 1 1;");
        marked(1, A + "zone |toolong 1 1 1 1;");
        marked(1, A + "zone |late 1 1 1 1;");
        marked(1, A + "child 1 1 prefers a |toolong;");
        marked(1, FIVE + "child 1 1 prefers a b c d |a;");
        marked(1, FIVE + "child 1 1 prefers a b c d |x;");
        marked(1, FIVE + "child 1 1 prefers a b c d |d;");
        marked(1, "late |0002;");
        marked(1, "seed |1000;");
        marked(1, "school a |0041 1 1;");
        marked(1, "seed 1;late 1 |seed 1;");
        marked(1, A + CHILD + "late 1 |seed 1;");
        marked(1, "late 1;appeals |late 1;");
        marked(1, SentencesOfTerms.EIGHT + "late 1 |school x 1 1 1;");
        marked(1, A + PUPIL.repeat(20) + "late 1 |pupil 1 a;");
        marked(1, A + CHILD.repeat(40) + "late 1 |child 1 1 prefers a;");
        marked(1, A + CHILD.repeat(40) + "|childx");
    }

    private static void firstOfAFullOffice() {
        Check.about("T MISPLACED ahead of what follows the first word");
        marked(4, SentencesOfTerms.EIGHT + "|school a 41 x");
        marked(4, SentencesOfTerms.EIGHT + "|school");
        marked(4, A + PUPIL.repeat(20) + "|pupil 100 x;");
        marked(4, A + PUPIL.repeat(20) + "|pupil");
        marked(4, A + CHILD.repeat(40) + "|child 100;");
        marked(4, A + CHILD.repeat(40) + "|child");
        marked(4, "late 1;|late 2;");
        marked(4, "late 1;|late");
        marked(4, "appeals 1;|appeals x;");
        marked(4, "seed 1;|seed 1000;");
        marked(4, A + CHILD + "|seed");
    }

    private static void syntaxErrors() {
        Doc.says("T", "SYNTAX: a token that cannot stand at its place (also a rule for the second time, and a fifth "
            + "preference), a number or a name that is too long, a byte that belongs to no token, or the end of the text "
            + "where more is required.", "The offset is that of the first byte of the token, or the length of the text.",
            "`SYNTAX = 1`: Error code: the text does not follow the form.");
        Check.is("SYNTAX", PlaceOffice.SYNTAX, 1);
        for (String rule : new String[] {"care", "sibling", "zone"}) {
            for (String other : new String[] {"care", "sibling", "zone"}) {
                if (rule.equals(other)) {
                    marked(1, "school a 1 1 1 " + rule + " |" + rule + ";");
                } else {
                    marked(1, "school a 1 1 1 " + rule + " " + other + " |" + rule + ";");
                    marked(1, "school a 1 1 1 " + rule + " " + other + " |" + other + ";");
                    loads("school a 1 1 1 " + rule + " " + other + ";", 0);
                }
            }
        }
        marked(1, FIVE + "child 1 1 prefers e d c b |a;");
        loads(FIVE + "child 1 1 prefers e d c b;", 1);
        marked(1, "seed |0001;");
        marked(1, "school |abcdefg 1 1 1;");
        loads("school abcdef 001 001 001;", 0);
        marked(1, "late 1|_;");
        marked(1, "late 1;|_");
        marked(1, "|_late 1;");
        // Behind each token of a text, its end is an error unless that is a semicolon.
        String text = "seed 1 ; appeals 2 ; late 0 ; school aa 1 2 3 care zone ; school b 4 5 6 ; zone aa 1 2 3 4 ; "
            + "pupil 7 aa ; child 8 9 care family 1 prefers b aa ; child 1 1 prefers aa ; ";
        int children = 0;
        boolean inside = false;
        for (int at = 0; at < text.length(); at++) {
            if (text.charAt(at) == ' ') {
                String head = text.substring(0, at);
                children += head.endsWith(";") && head.matches(".*child[^;]*;") ? 1 : 0;
                inside = !head.endsWith(";");
                if (inside) {
                    error(head, 1, at);
                    error(head + " ", 1, at + 1);
                    error(head + "\n\n ", 1, at + 3);
                } else {
                    loads(head, children);
                    loads(head + " \n", children);
                }
            }
        }
        Check.is("children of the text", children, 2);
    }

    private static void rangeErrors() {
        Doc.says("T", "OUT_OF_RANGE: a number out of its range, at its first byte.",
            "`OUT_OF_RANGE = 2`: Error code: a number is out of range.");
        Check.is("OUT_OF_RANGE", PlaceOffice.OUT_OF_RANGE, 2);
        marked(2, "late   |002 x");
        marked(2, "appeals\n|10;");
        marked(2, "appeals|10;");
        marked(2, "school a |41");
        marked(2, "school a |999 999 999;");
        marked(2, A + "zone a 99 99 99 |98;");
        marked(2, A + "zone a 99 99 |000 0;");
        marked(2, A + "pupil |000 a;");
        marked(2, A + "child 1 1 family |000 prefers a;");
    }

    private static void nameErrors() {
        Doc.says("T", "BAD_NAME: the name of a school that was told already; elsewhere one that was not told; a preference that "
            + "the child has already; the name of a school whose zone was told already, behind zone.",
            "`BAD_NAME = 3`: Error code: a name that cannot stand there.");
        Check.is("BAD_NAME", PlaceOffice.BAD_NAME, 3);
        marked(3, A + "school |a 1 1 1;");
        marked(3, FIVE + "school |a 41 1 1;");
        marked(3, FIVE + "school |e");
        marked(3, "zone |a 1 1 1 1;" + A);
        marked(3, A + "zone |aa 1 1 1 1;");
        marked(3, "pupil 1 |a;" + A);
        marked(3, A + "pupil 1 |b;");
        marked(3, "child 1 1 prefers |a;" + A);
        marked(3, A + "child 1 1 prefers |b;");
        marked(3, A + "child 1 1 prefers a |b;");
        marked(3, FIVE + "child 1 1 prefers a b c |f;");
        for (int again = 0; again < 3; again++) {
            String[] four = {"a", "b", "c", "d"};
            for (int at = again + 1; at < 4; at++) {
                StringBuilder text = new StringBuilder(FIVE + "child 1 1 prefers");
                for (int i = 0; i < at; i++) {
                    text.append(' ').append(four[i]);
                }
                marked(3, text + " |" + four[again] + ";");
            }
        }
        loads(FIVE + "child 1 1 prefers a b;child 1 1 prefers a b;pupil 1 a;pupil 1 a;", 2);
        marked(3, FIVE + "zone c 1 1 1 1;zone a 2 2 2 2;zone |c 3 3 3 3;");
        marked(3, FIVE + "zone a 0 0 0 0;zone |a 1 1 1 1;");
        marked(3, FIVE + "zone a 99 99 99 99;zone |a");
        // A school is told when its statement ends.
        marked(1, "school a 1 1 1 zone |a 1 1 1 1;");
    }

    private static void misplacedErrors() {
        Doc.says("T", "MISPLACED: a second seed, appeals or late, a seed behind a child, a ninth school, a 21st pupil or a 41st "
            + "child, at its first word.", "`MISPLACED = 4`: Error code: a statement that cannot stand there.");
        Check.is("MISPLACED", PlaceOffice.MISPLACED, 4);
        marked(4, "seed 1;|seed 1;");
        marked(4, "appeals 0;|appeals 0;");
        marked(4, "late 0; \n |late 0;");
        marked(4, A + CHILD + "|seed 0;");
        marked(4, A + CHILD + CHILD + "appeals 1;|seed 0;");
        String eight = SentencesOfTerms.EIGHT;
        Check.is("an eighth school", loads(eight, 0).count(0), 8);
        marked(4, eight + " |school i 1 1 1;");
        String twenty = A + PUPIL.repeat(20);
        Check.is("a 20th pupil", loads(twenty, 0).count(2), 20);
        marked(4, twenty + "\n|pupil 1 a;");
        Check.is("a 40th child", loads(A + CHILD.repeat(40), 40).count(1), 40);
        marked(4, A + CHILD.repeat(40) + "\n|child 1 1 prefers a;");
        loads(A + CHILD.repeat(40) + "pupil 1 a;school b 1 1 1;zone b 1 1 1 1;", 40);
    }

    private static void errorsChangeNothing() {
        Doc.says("T", "An error changes nothing but the input buffer and the reported error.");
        String[] wrong = {"x", "school c 1 1 1;school c", "school a 5 5 5;child 1 1 prefers a;late 2;",
            "seed 9;appeals 9;late 1;school q 1 1 1 care;zone q 1 1 1 1;pupil 1 q;child 1 1 prefers q;seed", "late 1;late 1;"};
        for (String text : wrong) {
            Whole.same("load of " + shown(text), Whole.but(Whole.Part.INPUT, Whole.Part.ERROR), SentencesOfTerms::lively,
                o -> {
                    SentencesOfTerms.lively(o);
                    Check.is("load", Check.load(o, text), -1);
                });
            PlaceOffice o = new PlaceOffice();
            SentencesOfTerms.lively(o);
            Check.load(o, text);
            Check.is("the buffer is empty", o.truncateInput(1), false);
            Check.is("there is an error", o.errorCode() != 0 && o.errorOffset() >= 0, true);
            Check.is("also after a second one", Check.load(o, "late 1;" + text), -1);
            Check.is("children", o.count(1) + " " + o.count(11), "5 8");
        }
    }

    private static void loadsReplaceEverything() {
        Doc.says("T", "A successful load replaces everything but the output, which stays: the state is open, nothing can be "
            + "undone, and no state is saved.", "The constants: `NO_ERROR = 0`: No error.");
        Check.is("NO_ERROR", PlaceOffice.NO_ERROR, 0);
        String text = "school b 2 1 1 sibling;school q 1 50 1 zone;child 1 1 family 3 prefers b q;child 1 2 prefers q;"
            + "child 5 5 prefers b;child 1 3 prefers q;child 5 6 prefers b q;";
        for (int before = 1; before <= 3; before++) {
            int times = before;
            Whole.same("load behind " + times, Whole.but(Whole.Part.OUTPUT), o -> Check.load(o, text), o -> {
                for (int i = 0; i < times; i++) {
                    SentencesOfTerms.lively(o);
                }
                Check.load(o, text);
            });
            Whole.same("changes behind that load", Whole.but(Whole.Part.OUTPUT), o -> {
                Check.load(o, text);
                o.allocate();
                o.withdraw(3);
            }, o -> {
                for (int i = 0; i < times; i++) {
                    SentencesOfTerms.lively(o);
                }
                Check.load(o, text);
                o.allocate();
                o.withdraw(3);
            });
        }
        PlaceOffice o = new PlaceOffice();
        SentencesOfTerms.lively(o);
        Check.load(o, text);
        Check.is("open", o.count(8) + " " + o.count(9) + " " + o.count(10), "0 0 0");
        Check.is("nothing can be undone", o.count(11) + " " + o.undo(), "0 -1");
        Check.fails("no state is saved", SentencesOfTerms.STATE, o::restoreState);
        Check.is("the output stays", Whole.output(o), "a: 3 4*/ 0");
        Check.is("no error", o.errorCode() + " " + o.errorOffset(), "0 -1");
    }

    private static void emptyTexts() {
        Doc.says("T", "An empty text has no schools.");
        for (String text : new String[] {"", " ", "\n \n", "late 0;"}) {
            Whole.same("a text without schools", Whole.but(Whole.Part.OUTPUT), o -> Check.load(o, ""), o -> {
                SentencesOfTerms.lively(o);
                Check.load(o, text);
            });
        }
        PlaceOffice o = loads("", 0);
        for (int what = 0; what < 12; what++) {
            Check.is("count " + what, o.count(what), 0);
        }
        for (int number : new int[] {-1, 0, 1, 7, 8, Integer.MIN_VALUE, Integer.MAX_VALUE}) {
            Check.fails("school " + number, SentencesOfTerms.INDEX, () -> o.school(number, 0));
            Check.fails("child " + number, SentencesOfTerms.INDEX, () -> o.child(number, 0));
            Check.fails("a preference " + number, SentencesOfTerms.ARGUMENT, () -> o.addChild(0, 0, 0, false, number));
        }
        Check.is("questions", o.claims() + " " + o.firstShare() + " " + o.meanPreference() + " " + o.together() + " "
            + o.freePlaces() + " " + o.trades() + " " + o.meanWay() + " " + o.mostWaited() + " "
            + o.changedByAllocation(), "0 0.0 0.0 0 0 0 0.0 -1 0");
        Check.is("changes", o.allocate() + " " + o.setLate(true) + " " + o.count(11) + " " + o.undo() + " " + o.undo()
            + " " + o.undo(), "0 false 2 1 0 -1");
        Check.is("a saved state", o.saveState() + " " + o.restoreState(), "0 0");
    }

    /** Each byte of a text in turn replaced by each other one, left out, and put in twice, read as the model does. */
    private static void eachByteInTurn() {
        Check.about("T each byte of a text in turn");
        String text = "seed 9;school a 1 2 3 care zone;zone a 1 1 22 33;school b 0 0 0;pupil 7 a;child 1 2 care family 7 "
            + "prefers a b;late 1;";
        List<String> texts = new ArrayList<>();
        for (int at = 0; at < text.length(); at++) {
            String head = text.substring(0, at);
            String tail = text.substring(at + 1);
            for (int sign = 0; sign < 256; sign += sign < 128 ? 1 : 31) {
                texts.add(head + (char) sign + tail);
                texts.add(head + (char) sign + text.substring(at));
            }
            texts.add(head + tail);
            texts.add(head);
        }
        for (String t : texts) {
            PlaceOffice office = new PlaceOffice();
            OfficeModel model = new OfficeModel();
            for (int i = 0; i < t.length(); i += 20) {
                int[] fours = Check.fours(t, i);
                office.appendInput(fours[0], fours[1], fours[2], fours[3], fours[4]);
                model.appendInput(fours[0], fours[1], fours[2], fours[3], fours[4]);
            }
            office.truncateInput(t.length());
            model.truncateInput(t.length());
            Check.is("load of " + t, office.loadOffice() + " " + office.errorCode() + " " + office.errorOffset(),
                model.loadOffice() + " " + model.errorCode() + " " + model.errorOffset());
        }
    }

    static void run() {
        nineHundredBytes();
        statementsAndSemicolons();
        wordsThatBeginAStatement();
        numbers();
        schoolStatements();
        zoneStatements();
        pupilStatements();
        childStatements();
        settingStatements();
        onceEach();
        names();
        tokens();
        bytes();
        theFirstError();
        firstOfAFullOffice();
        syntaxErrors();
        rangeErrors();
        nameErrors();
        misplacedErrors();
        errorsChangeNothing();
        loadsReplaceEverything();
        emptyTexts();
        eachByteInTurn();
    }
}
