import java.lang.reflect.InvocationTargetException;
import java.lang.reflect.Method;
import java.util.Arrays;
import java.util.HashMap;
import java.util.Map;

/** An office and a model that get the same calls and must answer alike. */
final class Twins {
    private static final Map<String, Method> MODEL = new HashMap<>();

    static {
        for (Method m : OfficeModel.class.getDeclaredMethods()) {
            MODEL.put(m.getName(), m);
        }
    }

    private final PlaceOffice office = new PlaceOffice();
    private final OfficeModel model = new OfficeModel();
    private int calls = 0;

    Object call(String name, Object... args) {
        calls++;
        Object due;
        try {
            due = MODEL.get(name).invoke(model, args);
        } catch (InvocationTargetException e) {
            due = e.getCause().getClass();
        } catch (IllegalAccessException e) {
            throw new IllegalStateException(e);
        }
        Check.is(name + Arrays.toString(args), Whole.answer(office, name, args), due);
        return due;
    }

    int calls() {
        return calls;
    }

    void load(String text) {
        for (int i = 0; i < text.length(); i += 20) {
            int[] fours = Check.fours(text, i);
            call("appendInput", fours[0], fours[1], fours[2], fours[3], fours[4]);
        }
        call("truncateInput", text.length());
        call("loadOffice");
    }
}
