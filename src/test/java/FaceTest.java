import java.io.IOException;
import java.lang.reflect.Constructor;
import java.lang.reflect.Field;
import java.lang.reflect.Method;
import java.lang.reflect.Modifier;
import java.nio.file.Files;
import java.nio.file.Path;
import java.util.Arrays;
import java.util.HashSet;
import java.util.List;
import java.util.Set;
import java.util.TreeSet;
import java.util.regex.Matcher;
import java.util.regex.Pattern;

/** The public face, and the rules of LANGUAGE.md that a program can look at easily. */
public final class FaceTest {
    private static final String INDEX = " throws IndexOutOfBoundsException";
    private static final String ARGUMENT = " throws IllegalArgumentException";
    private static final String STATE = " throws IllegalStateException";

    private static final String[] FACE = {
        "int appendInput(int, int, int, int, int)", "boolean truncateInput(int)", "int loadOffice()",
        "int errorCode()", "int errorOffset()", "int count(int)" + ARGUMENT,
        "int school(int, int)" + INDEX + ", IllegalArgumentException",
        "int rule(int, int)" + INDEX + ", NoSuchElementException",
        "int child(int, int)" + INDEX + ", IllegalArgumentException",
        "int preference(int, int)" + INDEX + ", NoSuchElementException",
        "int placeOf(int)" + INDEX, "int gotPreference(int)" + INDEX,
        "boolean meets(int, int, int)" + INDEX + ", IllegalArgumentException",
        "int classOf(int, int)" + INDEX, "int distance(int, int)" + INDEX,
        "boolean comesFirst(int, int, int)" + INDEX,
        "int holder(int, int)" + INDEX + ", NoSuchElementException",
        "int waiting(int, int)" + INDEX + ", NoSuchElementException",
        "int waitingPlace(int, int)" + INDEX, "boolean hasClaim(int, int)" + INDEX, "int claims()",
        "int allocate()", "int roundOf(int)" + INDEX,
        "int addChild(int, int, int, boolean, int)" + ARGUMENT + ", IllegalStateException",
        "int withdraw(int)" + INDEX + ", IllegalStateException",
        "int giveBack(int)" + INDEX + ", IllegalStateException",
        "int moveHome(int, int, int)" + INDEX + ", IllegalArgumentException",
        "int setCapacity(int, int)" + INDEX + ", IllegalArgumentException",
        "int appeal(int, int)" + INDEX + ", IllegalStateException", "boolean setLate(boolean)",
        "int lastHolder(int)" + INDEX, "float firstShare()", "double meanPreference()",
        "float way(int)" + INDEX, "int wanted(int, int)" + INDEX, "int inZone(int)" + INDEX,
        "int together()", "int cutoff(int, int)" + INDEX + ", IllegalArgumentException",
        "int nearest(int)" + INDEX, "int chainOf(int)" + INDEX, "int freePlaces()",
        "int tradePartner(int)" + INDEX, "int trades()", "int holdersOfClass(int, int)" + INDEX,
        "int triesOf(int)" + INDEX, "double meanWay()", "int mostWaited()", "long siblings(int)" + INDEX,
        "int changedByAllocation()",
        "int placeWith(int, int, int)" + INDEX + ", IllegalArgumentException",
        "int neededCapacity(int, int)" + INDEX, "long gainersWithout(int)" + INDEX,
        "int bestByOrder(int)" + INDEX, "int printSchool(int)" + INDEX, "int outputByte(int)", "int undo()",
        "int saveState()", "int restoreState()" + STATE
    };

    private static String names(Class<?>[] types) {
        StringBuilder s = new StringBuilder();
        for (Class<?> type : types) {
            s.append(s.length() == 0 ? "" : ", ").append(type.getSimpleName());
        }
        return s.toString();
    }

    private static void face() {
        Set<String> found = new TreeSet<>();
        for (Method m : PlaceOffice.class.getDeclaredMethods()) {
            if (!Modifier.isPrivate(m.getModifiers()) && !m.isSynthetic()) {
                String thrown = names(m.getExceptionTypes());
                found.add(m.getReturnType().getSimpleName() + " " + m.getName() + "("
                    + names(m.getParameterTypes()) + ")" + (thrown.isEmpty() ? "" : " throws " + thrown));
            }
        }
        Check.is("methods", found, new TreeSet<>(List.of(FACE)));
        Check.is("class", PlaceOffice.class.getModifiers(), Modifier.PUBLIC | Modifier.FINAL);
        Constructor<?>[] makers = PlaceOffice.class.getDeclaredConstructors();
        Check.is("constructors", makers.length + " " + makers[0], "1 public PlaceOffice()");
        Set<String> constants = new TreeSet<>();
        for (Field f : PlaceOffice.class.getDeclaredFields()) {
            if (!Modifier.isPrivate(f.getModifiers())) {
                constants.add(f.toString().replace("PlaceOffice.", ""));
            }
            if (Modifier.isStatic(f.getModifiers())) {
                Check.is("final " + f.getName(), Modifier.isFinal(f.getModifiers()), true);
            }
        }
        Set<String> due = new TreeSet<>();
        for (String name : List.of("NO_ERROR", "SYNTAX", "OUT_OF_RANGE", "BAD_NAME", "MISPLACED")) {
            due.add("public static final int " + name);
        }
        Check.is("constants", constants, due);
    }

    /** The face as the document tells it, line by line, is the one that is looked for here. */
    private static void faceOfTheDocument() throws IOException {
        Path path = Path.of("../shared/DOC.md");
        if (!Files.exists(path)) {
            System.out.println("there is no " + path + ": the face was not looked up");
            return;
        }
        Set<String> told = new TreeSet<>();
        Set<String> due = new TreeSet<>(List.of(FACE));
        due.add("PlaceOffice()");
        for (String line : Files.readAllLines(path)) {
            if (line.matches("    public (?!static).*;")) {
                told.add(line.trim().replaceFirst("public ", "").replaceAll("(int|boolean) \\w+([,)])", "$1$2")
                    .replace(";", ""));
            } else if (line.matches("    public static .*;")) {
                told.add(line.trim());
            }
        }
        String[] constants = {"NO_ERROR", "SYNTAX", "OUT_OF_RANGE", "BAD_NAME", "MISPLACED"};
        for (int i = 0; i < constants.length; i++) {
            due.add("public static final int " + constants[i] + " = " + i + ";");
        }
        Check.is("face of the document", told, due);
    }

    /** No method of one's own bears the name of a public one, and none takes more than seven. */
    private static void namesInside() {
        Set<String> open = new HashSet<>();
        for (String line : FACE) {
            open.add(line.substring(line.indexOf(' ') + 1, line.indexOf('(')));
        }
        Class<?>[] inside = PlaceOffice.class.getDeclaredClasses();
        Class<?>[] all = Arrays.copyOf(inside, inside.length + 1);
        all[inside.length] = PlaceOffice.class;
        Check.is("at most twelve classes", all.length <= 12, true);
        for (Class<?> type : all) {
            int fields = 0;
            for (Field f : type.getDeclaredFields()) {
                fields += Modifier.isStatic(f.getModifiers()) ? 0 : 1;
            }
            Check.is("fields of " + type.getName(), fields <= 20, true);
            for (Method m : type.getDeclaredMethods()) {
                Check.is("parameters of " + m, m.getParameterCount() <= 7, true);
                if (type != PlaceOffice.class || Modifier.isPrivate(m.getModifiers())) {
                    Check.is("name of " + m, open.contains(m.getName()), false);
                }
            }
        }
    }

    private static void source() throws IOException {
        String text = Files.readString(Path.of("src/main/java/PlaceOffice.java"));
        String code = text.replaceAll("(?s)/\\*.*?\\*/", "").replaceAll("//[^\n]*", "");
        for (String word : List.of("->", "::", "\\bfinally\\b", "\\bsynchronized\\b",
                "\\bassert\\b", "\\bprotected\\b", "\\bpackage\\b", "Exact\\b",
                "\\bequals\\(", "\\bhashCode\\b", "\\btoString\\b", "\\blambda\\b", "static \\{")) {
            Check.is("source has " + word, Pattern.compile(word).matcher(code).find(), false);
        }
        Matcher imports = Pattern.compile("import ([^;]*);").matcher(code);
        while (imports.find()) {
            Check.is("import " + imports.group(1),
                List.of("java.util.Arrays", "java.util.NoSuchElementException").contains(imports.group(1)), true);
        }
        library(code);
        Check.is("signs of the source", code.chars().allMatch(c -> c < 127), true);
        methodLengths(text.split("\n"));
    }

    /** What stands behind the name of a class of the library is in the list of LANGUAGE.md. */
    private static void library(String code) {
        Set<String> listed = Set.of("Math.max", "Math.min", "Long.bitCount", "Arrays.fill", "System.arraycopy");
        Matcher uses = Pattern.compile(
            "\\b(?:Math|Long|Integer|Arrays|System|String|Character|Short|Byte|Double|Float)\\.\\w+").matcher(code);
        int found = 0;
        while (uses.find()) {
            found++;
            Check.is(uses.group() + " is listed", listed.contains(uses.group()), true);
        }
        Check.is("uses of the library: " + found, found > 5, true);
        Set<String> thrown = Set.of("IllegalStateException", "IllegalArgumentException",
            "IndexOutOfBoundsException", "NoSuchElementException");
        Matcher throwing = Pattern.compile("\\bthrow new (\\w+)\\(\"[^\"]+\"\\);").matcher(code);
        int thrownOnes = 0;
        while (throwing.find()) {
            thrownOnes++;
            Check.is(throwing.group(1) + " is listed", thrown.contains(throwing.group(1)), true);
        }
        Check.is("every throw is a new one with a written text",
            code.split("\\bthrow\\b", -1).length - 1, thrownOnes);
        for (String word : List.of("\\btry\\b", "\\bcatch\\b", "\\binstanceof\\b", "\\bnew int\\[[^\\]]*\\]\\[")) {
            Check.is("source has " + word, Pattern.compile(word).matcher(code).find(), false);
        }
    }

    private static void methodLengths(String[] lines) {
        int methods = 0;
        for (int i = 0; i < lines.length; i++) {
            Matcher head = Pattern.compile("( {4}| {8})(?! |if|for|while|\\}).*\\(.*").matcher(lines[i]);
            if (head.matches() && (lines[i].endsWith("{") || lines[i + 1].endsWith("{"))) {
                int end = i;
                while (!lines[end].equals(head.group(1) + "}")) {
                    end++;
                }
                methods++;
                Check.is("length of " + lines[i].trim(), end - i < 60, true);
            }
        }
        Check.is("methods found: " + methods, methods > FACE.length + 60, true);
    }

    public static void main(String[] args) throws IOException {
        face();
        faceOfTheDocument();
        namesInside();
        source();
        Check.finish("FaceTest");
    }
}
