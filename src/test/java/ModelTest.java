import java.lang.reflect.InvocationTargetException;
import java.lang.reflect.Method;
import java.util.Arrays;
import java.util.Comparator;
import java.util.HashMap;
import java.util.Map;
import java.util.Random;

/** Random runs of calls, answered by PlaceOffice as by OfficeModel. */
public final class ModelTest {
    private static final int RUNS = 700;
    private static final int CALLS = 512;

    /**
     * For each method the kinds of its arguments (S school, C child, O coordinate, F family,
     * B boolean, W wishes, K capacity, I index, any other one a number up to that digit or so)
     * and how often it is called.
     */
    private static final String[] METHODS = {
        "count:i:3", "school:Si:4", "rule:SI:1", "child:Ci:3", "preference:CI:2", "placeOf:C:4",
        "gotPreference:C:2", "meets:CSI:2", "classOf:CS:2", "distance:CS:1", "comesFirst:SCC:4",
        "holder:SI:3", "waiting:SI:4", "waitingPlace:CS:4", "hasClaim:CS:4", "claims::3",
        "roundOf:C:3", "allocate::3", "addChild:OOFBW:5", "withdraw:C:3", "giveBack:C:5",
        "moveHome:COO:7", "setCapacity:SK:6", "appeal:CS:14", "setLate:B:4", "lastHolder:S:2",
        "firstShare::2", "meanPreference::2", "way:C:2", "wanted:SI:2", "inZone:S:2", "together::2",
        "cutoff:SI:2", "nearest:C:2", "chainOf:C:4", "freePlaces::2", "tradePartner:C:3",
        "trades::3", "holdersOfClass:SI:2", "triesOf:S:2", "meanWay::2", "mostWaited::2",
        "siblings:C:2", "changedByAllocation::2", "placeWith:CSK:2", "neededCapacity:CS:1",
        "gainersWithout:C:2", "bestByOrder:C:1", "printSchool:S:4", "outputByte:J:4", "undo::4",
        "saveState::2", "restoreState::1", "errorCode::1", "errorOffset::1"
    };

    private final Random random;
    private final PlaceOffice office = new PlaceOffice();
    private final OfficeModel model = new OfficeModel();
    private final StringBuilder told = new StringBuilder();
    private int calls = 0;

    private ModelTest(long seed) {
        random = new Random(seed);
    }

    private static Map<String, Method> methodsOf(Class<?> type) {
        Map<String, Method> methods = new HashMap<>();
        for (Method m : type.getDeclaredMethods()) {
            methods.put(m.getName(), m);
        }
        return methods;
    }

    private static final Map<String, Method> REAL = methodsOf(PlaceOffice.class);
    private static final Map<String, Method> MODEL = methodsOf(OfficeModel.class);
    private static final Map<String, Integer> ANSWERS = new HashMap<>();

    private static Object answer(Map<String, Method> methods, Object on, String name, Object[] args) {
        try {
            return methods.get(name).invoke(on, args);
        } catch (InvocationTargetException e) {
            return e.getCause().getClass().getName();
        } catch (IllegalAccessException e) {
            throw new IllegalStateException(e);
        }
    }

    private Object call(String name, Object... args) {
        calls++;
        Object want = answer(MODEL, model, name, args);
        Object got = answer(REAL, office, name, args);
        told.append(name).append(Arrays.toString(args)).append(" -> ").append(want).append('\n');
        if (!got.equals(want)) {
            System.out.println(told);
            System.out.println(name + Arrays.toString(args) + " answered " + got + ", due is " + want);
            System.exit(1);
        }
        String kind = want.equals(0) || want.equals(0L) || want.equals(false) || want.equals(0.0f)
            || want.equals(0.0) ? " zero" : want.equals(-1) ? " none" : want instanceof String
            ? " throws" : " other";
        ANSWERS.merge(name + kind, 1, Integer::sum);
        return want;
    }

    // ---- setup texts

    private int upTo(int most) {
        return random.nextInt(most + 1);
    }

    private String name(int school) {
        return new String[] {"a", "bb", "ccc", "dddd", "eeeee", "ffffff", "zoo", "lately"}[school];
    }

    private String coordinate(int spread) {
        return " " + (random.nextInt(12) == 0 ? upTo(99) : upTo(spread));
    }

    private String validText() {
        StringBuilder s = new StringBuilder();
        int schools = random.nextInt(20) == 0 ? 0 : 1 + random.nextInt(random.nextBoolean() ? 4 : 8);
        int spread = new int[] {1, 3, 9, 99}[random.nextInt(4)];
        int families = 1 + random.nextInt(12);
        if (random.nextBoolean()) {
            s.append("seed ").append(upTo(999)).append(";");
        }
        if (random.nextInt(3) > 0) {
            s.append("appeals ").append(upTo(3)).append(";");
        }
        if (random.nextBoolean()) {
            s.append("late ").append(upTo(1)).append(";\n");
        }
        for (int i = 0; i < schools; i++) {
            s.append("school ").append(name(i)).append(" ").append(random.nextInt(20) == 0 ? 40 : upTo(5));
            s.append(coordinate(spread)).append(coordinate(spread));
            String[] rules = {" care", " sibling", " zone"};
            for (int k = 0; k < 3; k++) {
                int other = random.nextInt(3);
                String rule = rules[k];
                rules[k] = rules[other];
                rules[other] = rule;
            }
            for (int k = upTo(3); k > 0; k--) {
                s.append(rules[k - 1]);
            }
            s.append(";");
            if (random.nextBoolean()) {
                int x = upTo(spread);
                int y = upTo(spread);
                s.append("zone ").append(name(i)).append(" ").append(x).append(" ").append(y).append(" ");
                s.append(Math.min(99, x + upTo(spread))).append(" ").append(Math.min(99, y + upTo(spread)));
                s.append(";");
            }
        }
        for (int i = schools == 0 ? 0 : random.nextInt(8); i > 0; i--) {
            s.append("pupil ").append(1 + random.nextInt(families)).append(" ");
            s.append(name(random.nextInt(schools))).append(";");
        }
        for (int i = schools == 0 ? 0 : random.nextInt(36); i > 0; i--) {
            StringBuilder child = new StringBuilder("child");
            child.append(coordinate(spread)).append(coordinate(spread));
            child.append(random.nextInt(5) == 0 ? " care " : "");
            if (random.nextInt(3) == 0) {
                child.append("family ").append(1 + random.nextInt(families));
            }
            child.append("prefers");
            int wishes = 0;
            for (int k = 1 + random.nextInt(4); k > 0; k--) {
                int school = random.nextInt(schools);
                if ((wishes >> school & 1) == 0) {
                    wishes |= 1 << school;
                    child.append(" ").append(name(school));
                }
            }
            child.append(";");
            if (s.length() + child.length() <= 900) {
                s.append(child);
            }
        }
        return s.toString();
    }

    private String brokenText() {
        String text = validText();
        String[] pieces = {";", " ", "a", "bb", "zoo", "toolong", "school", "zone", "pupil", "child", "seed",
            "appeals", "late", "care", "sibling", "family", "prefers", "0", "1", "40", "41", "99", "100",
            "999", "1000", "0000", "#", "A", "\t", "\u00e9", "child 1 1 prefers a;", "pupil 1 a;",
            "zone a 0 0 1 1;", "zone bb 3 3 2 9;", "seed 1;", "late 1;", "appeals 9;", "school xx 1 1 1;",
            "school a 1 1 1 care care;", "child 1 1 prefers a bb ccc dddd eeeee;"};
        for (int i = 1 + upTo(1); i > 0; i--) {
            int at = upTo(text.length());
            int cut = Math.min(text.length() - at, random.nextInt(3) == 0 ? random.nextInt(12) : 0);
            text = text.substring(0, at) + pieces[random.nextInt(pieces.length)] + text.substring(at + cut);
        }
        return text.length() <= 900 ? text : text.substring(0, 900);
    }

    private String crowdedText() {
        StringBuilder s = new StringBuilder("school a 1 1 1;");
        String piece = new String[] {"child1 1prefers a;", "pupil1a;", "school"}[random.nextInt(3)];
        for (int i = 0; s.length() + piece.length() + 12 < 900 && i < 45; i++) {
            s.append(piece);
            if (piece.equals("school")) {
                s.append(' ').append((char) ('b' + i % 20)).append(" 1 1 1;");
            }
        }
        return s.toString();
    }

    private void load(String text) {
        for (int i = 0; i < text.length(); i += 20) {
            Object[] fours = {0, 0, 0, 0, 0};
            for (int k = 0; k < 20; k++) {
                int sign = i + k < text.length() ? text.charAt(i + k) : random.nextInt(256);
                fours[k / 4] = (Integer) fours[k / 4] << 8 | sign;
            }
            call("appendInput", fours);
        }
        call("truncateInput", text.length() + 20);
        call("truncateInput", -1);
        call("truncateInput", text.length());
        call("loadOffice");
        call("errorCode");
        call("errorOffset");
    }

    // ---- calls

    private int number(char kind) {
        boolean odd = random.nextInt(25) == 0;
        int schools = model.count(0);
        int children = model.count(1);
        switch (kind) {
            case 'S': return odd || schools == 0 ? upTo(10) - 1 : random.nextInt(schools);
            case 'C': return odd || children == 0 ? upTo(42) - 1 : random.nextInt(children);
            case 'O': return odd ? upTo(102) - 1 : upTo(9);
            case 'F': return odd ? upTo(102) - 1 : upTo(9);
            case 'K': return odd ? upTo(42) - 1 : upTo(6);
            case 'I': return odd ? random.nextInt() : upTo(7) - 1;
            case 'J': return odd ? random.nextInt() : upTo(20) - 1;
            case 'i': return odd ? random.nextInt() : upTo(13) - 1;
            default: return wishes(schools, odd);
        }
    }

    private int wishes(int schools, boolean odd) {
        if (odd || schools == 0) {
            return new int[] {0, -1, 10, 11, 19, 90, 102, 12121, 12345, 1200, random.nextInt()}[upTo(10)];
        }
        int told = 0;
        int number = 0;
        for (int i = 1 + random.nextInt(4); i > 0; i--) {
            int school = random.nextInt(schools);
            if ((told >> school & 1) == 0) {
                told |= 1 << school;
                number = number * 10 + school + 1;
            }
        }
        return number;
    }

    /** Makes it likely that the child of the arguments waits for the school. */
    private void chooseWaiting(Object[] args) {
        for (int i = 0; i < 8 && model.count(0) > 0; i++) {
            int school = random.nextInt(model.count(0));
            int length = model.school(school, 9);
            if (length > 0) {
                args[0] = model.waiting(school, random.nextInt(length));
                args[1] = school;
                return;
            }
        }
    }

    private void randomCall() {
        String line = METHODS[random.nextInt(METHODS.length)];
        String[] parts = line.split(":");
        if (random.nextInt(14) >= Integer.parseInt(parts[2])) {
            return;
        }
        Object[] args = new Object[parts[1].length()];
        for (int i = 0; i < args.length; i++) {
            char kind = parts[1].charAt(i);
            if (kind == 'B') {
                args[i] = random.nextBoolean();
            } else {
                args[i] = number(kind);
            }
        }
        if (parts[1].equals("CS") && random.nextInt(3) > 0) {
            chooseWaiting(args);
        }
        call(parts[0], args);
        if (parts[0].equals("printSchool")) {
            for (int i = 0; i < 20 && calls < CALLS; i++) {
                call("outputByte", i);
            }
        }
    }

    private void run() {
        if (random.nextInt(6) == 0) {
            for (int i = random.nextInt(6); i > 0 && calls < 200; i--) {
                load(random.nextInt(8) == 0 ? crowdedText() : brokenText());
            }
        }
        load(validText());
        for (int i = random.nextInt(3); i > 0; i--) {
            randomCall();
        }
        call("allocate");
        while (calls < CALLS) {
            randomCall();
            if (random.nextInt(400) == 0 && calls < CALLS - 60) {
                load(random.nextBoolean() ? brokenText() : validText());
            }
        }
    }

    public static void main(String[] args) {
        int runs = args.length > 0 ? Integer.parseInt(args[0]) : RUNS;
        long first = args.length > 1 ? Long.parseLong(args[1]) : 1L;
        for (long seed = first; seed < first + runs; seed++) {
            new ModelTest(seed).run();
        }
        if (args.length > 2) {
            ANSWERS.entrySet().stream().sorted(Comparator.comparing(Map.Entry::getKey))
                .forEach(e -> System.out.println(e.getKey() + " " + e.getValue()));
        }
        System.out.println("ModelTest: " + runs + " runs answered as the model does");
    }
}
