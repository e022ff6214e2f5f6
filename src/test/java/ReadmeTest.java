import java.io.IOException;
import java.nio.file.Files;
import java.nio.file.Path;
import java.util.ArrayList;
import java.util.List;

/** What README.md shows of the use of the class: each line of it stands here too, and answers as it says. */
public final class ReadmeTest {
    private static final List<String> SHOWN = new ArrayList<>();

    private ReadmeTest() {
    }

    private static void shows(String line) {
        SHOWN.add(line);
    }

    private static void answers(String line, Object got, Object want) {
        SHOWN.add(line);
        Check.is(line, got, want);
    }

    private static PlaceOffice loads() {
        shows("PlaceOffice office = new PlaceOffice();");
        PlaceOffice office = new PlaceOffice();
        shows("// \"school a 1 0 0;child 3 4 prefers a;\" and 5 spaces");
        shows("office.appendInput(0x7363686f, 0x6f6c2061, 0x20312030, 0x20303b63, 0x68696c64);");
        office.appendInput(0x7363686f, 0x6f6c2061, 0x20312030, 0x20303b63, 0x68696c64);
        answers("office.appendInput(0x20332034, 0x20707265, 0x66657273, 0x20613b20, 0x20202020);   // 40",
            office.appendInput(0x20332034, 0x20707265, 0x66657273, 0x20613b20, 0x20202020), 40);
        answers("office.truncateInput(35);         // true", office.truncateInput(35), true);
        answers("office.loadOffice();              // 1, the children; -1 if there is an error",
            office.loadOffice(), 1);
        answers("office.errorCode();               // NO_ERROR", office.errorCode(), PlaceOffice.NO_ERROR);
        answers("office.errorOffset();             // -1", office.errorOffset(), -1);
        return office;
    }

    private static void allocates(PlaceOffice office) {
        answers("office.allocate();                // 1 round", office.allocate(), 1);
        answers("office.placeOf(0);                // 0, the school a", office.placeOf(0), 0);
        answers("office.way(0);                    // 5.0", office.way(0), 5.0f);
        answers("office.addChild(0, 1, 0, false, 1);   // 1, a late child; its preferences are school 0 alone",
            office.addChild(0, 1, 0, false, 1), 1);
        answers("office.hasClaim(1, 0);            // true: child 0 comes behind it", office.hasClaim(1, 0), true);
        answers("office.neededCapacity(0, 0);      // 2, if an allocation was made now",
            office.neededCapacity(0, 0), 2);
        answers("office.appeal(1, 0);              // 2, allowed by a claim", office.appeal(1, 0), 2);
        answers("office.printSchool(0);            // 8, the bytes of \"a: 1* 0/\"", office.printSchool(0), 8);
        Check.is("the output", Check.output(office, 8), "a: 1* 0/");
    }

    private static void takesBack(PlaceOffice office) {
        answers("office.outputByte(0);             // 97, an a", office.outputByte(0), 97);
        answers("office.undo();                    // 2, the changes that can still be undone", office.undo(), 2);
        answers("office.placeOf(1);                // -1", office.placeOf(1), -1);
        answers("office.saveState();               // 2, the children", office.saveState(), 2);
        answers("office.withdraw(0);               // 0, the school that it leaves", office.withdraw(0), 0);
        answers("office.placeOf(1);                // 0: the place was filled from the waiting list",
            office.placeOf(1), 0);
        answers("office.restoreState();            // 2; nothing can be undone then", office.restoreState(), 2);
        answers("office.placeOf(0);                // 0", office.placeOf(0), 0);
    }

    /** The lines of the README that stand in its Java blocks. */
    private static List<String> javaLines() throws IOException {
        List<String> found = new ArrayList<>();
        boolean inside = false;
        for (String line : Files.readAllLines(Path.of("README.md"))) {
            if (line.startsWith("```")) {
                inside = line.equals("```java");
            } else if (inside && !line.isBlank()) {
                found.add(line);
            }
        }
        return found;
    }

    public static void main(String[] args) throws IOException {
        PlaceOffice office = loads();
        allocates(office);
        takesBack(office);
        Check.is("the lines of README.md", String.join("\n", javaLines()), String.join("\n", SHOWN));
        Check.finish("ReadmeTest");
    }
}
