import java.lang.reflect.InvocationTargetException;
import java.lang.reflect.Method;
import java.util.Arrays;
import java.util.EnumSet;
import java.util.HashMap;
import java.util.Map;
import java.util.Set;
import java.util.function.Consumer;

/** All that an office answers, to compare the offices that two stories of calls leave. */
final class Whole {
    /** What a comparison looks at; each part takes an office of its own, none is used for over 512 calls. */
    enum Part { NOW, UNDO, SAVED, INPUT, ERROR, OUTPUT }

    static final Set<Part> ALL = EnumSet.allOf(Part.class);

    private static final Map<String, Method> METHODS = new HashMap<>();

    static {
        for (Method m : PlaceOffice.class.getDeclaredMethods()) {
            METHODS.put(m.getName(), m);
        }
    }

    private Whole() {
    }

    static Method method(String name) {
        return METHODS.get(name);
    }

    /** The answer of a call, or the class of what it throws. */
    static Object answer(PlaceOffice o, String name, Object... args) {
        try {
            return METHODS.get(name).invoke(o, args);
        } catch (InvocationTargetException e) {
            return e.getCause().getClass();
        } catch (IllegalAccessException e) {
            throw new IllegalStateException(e);
        }
    }

    static void same(String what, Set<Part> parts, Consumer<PlaceOffice> due, Consumer<PlaceOffice> story) {
        for (Part part : parts) {
            Check.is(what + " (" + part + ")", seen(part, story), seen(part, due));
        }
    }

    static Set<Part> but(Part... parts) {
        EnumSet<Part> rest = EnumSet.allOf(Part.class);
        rest.removeAll(Arrays.asList(parts));
        return rest;
    }

    private static String seen(Part part, Consumer<PlaceOffice> story) {
        PlaceOffice o = new PlaceOffice();
        story.accept(o);
        switch (part) {
            case NOW: return answers(o);
            case UNDO: return undone(o);
            case SAVED: return answer(o, "restoreState") + "\n" + answers(o);
            case INPUT: return o.loadOffice() + " " + o.errorCode() + " " + o.errorOffset() + "\n" + answers(o);
            case ERROR: return o.errorCode() + " " + o.errorOffset();
            default: return output(o);
        }
    }

    static String output(PlaceOffice o) {
        StringBuilder s = new StringBuilder();
        for (int i = 0; o.outputByte(i) != -1; i++) {
            s.append((char) o.outputByte(i));
        }
        return s.toString();
    }

    private static String undone(PlaceOffice o) {
        StringBuilder s = new StringBuilder();
        int left = o.count(11);
        for (int i = 0; i <= left; i++) {
            s.append(o.undo()).append(':');
            for (int what = 1; what < 12; what++) {
                s.append(' ').append(o.count(what));
            }
            for (int child = 0; child < o.count(1); child++) {
                s.append(' ').append(o.placeOf(child)).append(o.child(child, 0)).append(o.child(child, 5));
            }
            for (int school = 0; school < o.count(0); school++) {
                s.append(' ').append(o.school(school, 0)).append(o.school(school, 7)).append(o.school(school, 8));
            }
            s.append('\n');
        }
        return s.toString();
    }

    private static void tell(StringBuilder s, PlaceOffice o, String name, Object... args) {
        s.append(name).append(Arrays.toString(args)).append(' ').append(answer(o, name, args)).append('\n');
    }

    /** The answers of all questions about the office as it stands: for two schools and five children some 350. */
    static String answers(PlaceOffice o) {
        StringBuilder s = new StringBuilder();
        for (int what : new int[] {1, 3, 5}) {
            tell(s, o, "count", what);
        }
        return s + answers(o, o.count(1));
    }

    /** The same, but of the first children alone, and without the counts that tell the other ones by name. */
    static String answers(PlaceOffice o, int children) {
        StringBuilder s = new StringBuilder();
        for (int what : new int[] {0, 2, 4, 6, 7, 8, 9, 10}) {
            tell(s, o, "count", what);
        }
        for (String name : new String[] {"claims", "firstShare", "meanPreference", "together", "freePlaces",
            "trades", "meanWay", "mostWaited", "changedByAllocation"}) {
            tell(s, o, name);
        }
        int schools = o.count(0);
        for (int school = 0; school < schools; school++) {
            schoolAnswers(s, o, school);
        }
        for (int child = 0; child < children; child++) {
            childAnswers(s, o, child);
            for (int school = 0; school < schools; school++) {
                pairAnswers(s, o, child, school);
                for (int other = 0; other < child; other++) {
                    tell(s, o, "comesFirst", school, child, other);
                }
            }
        }
        return s.toString();
    }

    private static void schoolAnswers(StringBuilder s, PlaceOffice o, int school) {
        for (int what = 0; what < 10; what++) {
            tell(s, o, "school", school, what);
        }
        for (int i = 0; i < o.school(school, 3); i++) {
            tell(s, o, "rule", school, i);
        }
        for (int i = 0; i < o.school(school, 6); i++) {
            tell(s, o, "holder", school, i);
        }
        for (int i = 0; i < o.school(school, 9); i++) {
            tell(s, o, "waiting", school, i);
        }
        for (int what = 0; what < 3; what++) {
            tell(s, o, "cutoff", school, what);
        }
        tell(s, o, "lastHolder", school);
        tell(s, o, "wanted", school, 0);
        tell(s, o, "wanted", school, 1);
        tell(s, o, "inZone", school);
        tell(s, o, "holdersOfClass", school, 0);
        tell(s, o, "triesOf", school);
    }

    private static void childAnswers(StringBuilder s, PlaceOffice o, int child) {
        for (int what = 0; what < 9; what++) {
            tell(s, o, "child", child, what);
        }
        for (int i = 0; i < o.child(child, 5); i++) {
            tell(s, o, "preference", child, i);
        }
        for (String name : new String[] {"placeOf", "gotPreference", "roundOf", "way", "nearest", "chainOf",
            "tradePartner", "siblings", "gainersWithout", "bestByOrder"}) {
            tell(s, o, name, child);
        }
    }

    private static void pairAnswers(StringBuilder s, PlaceOffice o, int child, int school) {
        for (int rule = 0; rule < 3; rule++) {
            tell(s, o, "meets", child, school, rule);
        }
        for (String name : new String[] {"classOf", "distance", "waitingPlace", "hasClaim", "neededCapacity"}) {
            tell(s, o, name, child, school);
        }
        tell(s, o, "placeWith", child, school, 2);
    }
}
