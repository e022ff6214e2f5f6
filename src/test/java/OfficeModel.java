import java.util.ArrayDeque;
import java.util.ArrayList;
import java.util.Comparator;
import java.util.HashSet;
import java.util.List;
import java.util.NoSuchElementException;
import java.util.Set;
import java.util.TreeMap;

/**
 * A second reading of the document, as plain as can be and without the limits of LANGUAGE.md:
 * ModelTest lets it answer the same calls as PlaceOffice.
 */
public final class OfficeModel {
    static final List<String> RESERVED = List.of("school", "zone", "pupil", "child", "seed", "appeals",
        "late", "care", "sibling", "family", "prefers");
    static final List<String> RULES = List.of("care", "sibling", "zone");

    static final class School implements Cloneable {
        String name;
        int capacity;
        int x;
        int y;
        List<Integer> rules = new ArrayList<>();
        int[] zone = null;
        int graces = 0;

        School copy() {
            try {
                return (School) clone();
            } catch (CloneNotSupportedException e) {
                throw new AssertionError(e);
            }
        }
    }

    static final class Child implements Cloneable {
        int number;
        int x;
        int y;
        int family;
        boolean care;
        int lot;
        List<Integer> prefs = new ArrayList<>();
        boolean late;
        boolean withdrawn;
        int place = -1;
        boolean appealed;
        int round;
        List<Integer> untried = new ArrayList<>();

        Child copy() {
            try {
                Child c = (Child) clone();
                c.prefs = new ArrayList<>(prefs);
                c.untried = new ArrayList<>();
                return c;
            } catch (CloneNotSupportedException e) {
                throw new AssertionError(e);
            }
        }
    }

    static final class State {
        List<School> schools = new ArrayList<>();
        List<int[]> pupils = new ArrayList<>();
        List<Child> children = new ArrayList<>();
        int x = 0;
        int appeals = 0;
        boolean late = false;
        boolean allocated = false;
        int rounds = 0;
        int filled = 0;

        State copy() {
            State s = new State();
            for (School school : schools) {
                s.schools.add(school.copy());
            }
            s.pupils = pupils;
            for (Child child : children) {
                s.children.add(child.copy());
            }
            s.x = x;
            s.appeals = appeals;
            s.late = late;
            s.allocated = allocated;
            s.rounds = rounds;
            s.filled = filled;
            return s;
        }

        void add(Child c) {
            x = (x * 1103515245 + 12345) & 0x7fffffff;
            c.lot = (x / 65536) % 10000;
            c.number = children.size();
            children.add(c);
        }

        boolean meets(Child c, int s, int rule) {
            School school = schools.get(s);
            if (rule == 0) {
                return c.care;
            }
            if (rule == 1) {
                return c.family != 0 && pupils.stream().anyMatch(p -> p[0] == c.family && p[1] == s);
            }
            int[] z = school.zone;
            return z != null && c.x >= z[0] && c.x <= z[2] && c.y >= z[1] && c.y <= z[3];
        }

        int classOf(Child c, int s) {
            List<Integer> rules = schools.get(s).rules;
            int i = 0;
            while (i < rules.size() && !meets(c, s, rules.get(i))) {
                i++;
            }
            return i;
        }

        int distance(Child c, int s) {
            int dx = c.x - schools.get(s).x;
            int dy = c.y - schools.get(s).y;
            return dx * dx + dy * dy;
        }

        Comparator<Child> order(int s) {
            return (a, b) -> {
                if (late && a.late != b.late) {
                    return a.late ? 1 : -1;
                }
                if (classOf(a, s) != classOf(b, s)) {
                    return classOf(a, s) - classOf(b, s);
                }
                if (distance(a, s) != distance(b, s)) {
                    return distance(a, s) - distance(b, s);
                }
                return a.lot != b.lot ? a.lot - b.lot : a.number - b.number;
            };
        }

        List<Child> holders(int s) {
            List<Child> list = new ArrayList<>();
            for (Child c : children) {
                if (c.place == s) {
                    list.add(c);
                }
            }
            list.sort(order(s));
            return list;
        }

        boolean waits(Child c, int s) {
            if (!allocated || c.withdrawn || !c.prefs.contains(s)) {
                return false;
            }
            return c.place < 0 || c.prefs.indexOf(s) < c.prefs.indexOf(c.place);
        }

        List<Child> waiters(int s) {
            List<Child> list = new ArrayList<>();
            for (Child c : children) {
                if (waits(c, s)) {
                    list.add(c);
                }
            }
            list.sort(order(s));
            return list;
        }

        boolean claim(Child c, int s) {
            return waits(c, s)
                && holders(s).stream().anyMatch(h -> !h.appealed && order(s).compare(c, h) < 0);
        }

        void fill() {
            boolean again = allocated;
            while (again) {
                again = false;
                for (int s = 0; s < schools.size() && !again; s++) {
                    if (holders(s).size() < schools.get(s).capacity && !waiters(s).isEmpty()) {
                        Child c = waiters(s).get(0);
                        c.place = s;
                        c.appealed = false;
                        filled++;
                        again = true;
                    }
                }
            }
        }

        State allocate() {
            allocated = true;
            rounds = 0;
            filled = 0;
            for (School s : schools) {
                s.graces = 0;
            }
            for (Child c : children) {
                c.place = -1;
                c.appealed = false;
                c.round = 0;
                c.untried = new ArrayList<>(c.withdrawn ? List.of() : c.prefs);
            }
            while (true) {
                boolean any = false;
                for (Child c : children) {
                    if (c.place < 0 && !c.untried.isEmpty()) {
                        c.place = c.untried.remove(0);
                        c.round = rounds + 1;
                        any = true;
                    }
                }
                if (!any) {
                    return this;
                }
                rounds++;
                for (int s = 0; s < schools.size(); s++) {
                    List<Child> list = holders(s);
                    for (int i = schools.get(s).capacity; i < list.size(); i++) {
                        list.get(i).place = -1;
                        list.get(i).round = 0;
                    }
                }
            }
        }

        void withdraw(int child) {
            Child c = children.get(child);
            c.withdrawn = true;
            c.place = -1;
            c.appealed = false;
        }

        int got(int child) {
            Child c = children.get(child);
            return c.place < 0 ? -1 : c.prefs.indexOf(c.place);
        }
    }

    private String input = "";
    private String output = "";
    private int error = 0;
    private int errorAt = -1;
    private State now = new State();
    private State saved = null;
    private final ArrayDeque<State> past = new ArrayDeque<>();

    // ---- setup text

    public int appendInput(int a, int b, int c, int d, int e) {
        if (input.length() > 880) {
            return -1;
        }
        StringBuilder s = new StringBuilder(input);
        for (int four : new int[] {a, b, c, d, e}) {
            s.append((char) (four >>> 24)).append((char) (four >>> 16 & 255));
            s.append((char) (four >>> 8 & 255)).append((char) (four & 255));
        }
        input = s.toString();
        return input.length();
    }

    public boolean truncateInput(int length) {
        if (length < 0 || length > input.length()) {
            return false;
        }
        input = input.substring(0, length);
        return true;
    }

    @SuppressWarnings("serial")
    private static final class Bad extends RuntimeException {
        final int code;
        final int at;

        Bad(int code, int at) {
            this.code = code;
            this.at = at;
        }
    }

    private static final class Parser {
        final List<String> tokens = new ArrayList<>();
        final List<Integer> places = new ArrayList<>();
        int next = 0;
        final State s = new State();
        final Set<String> told = new HashSet<>();

        Parser(String text) {
            java.util.regex.Matcher m =
                java.util.regex.Pattern.compile("[a-z]+|[0-9]+|[ \n]+|;|(?s:.)").matcher(text);
            while (m.find()) {
                if (!m.group().matches("[ \n]+")) {
                    tokens.add(m.group());
                    places.add(m.start());
                }
            }
            tokens.add("");
            places.add(text.length());
        }

        String peek() {
            return tokens.get(next);
        }

        Bad bad(int code) {
            return new Bad(code, places.get(next));
        }

        void word(String w) {
            if (!peek().equals(w)) {
                throw bad(1);
            }
            next++;
        }

        int number(int least, int most) {
            if (!peek().matches("[0-9]{1,3}")) {
                throw bad(1);
            }
            int n = Integer.parseInt(peek());
            if (n < least || n > most) {
                throw bad(2);
            }
            next++;
            return n;
        }

        String name() {
            if (!peek().matches("[a-z]{1,6}") || RESERVED.contains(peek())) {
                throw bad(1);
            }
            return peek();
        }

        int index(String name) {
            for (int i = 0; i < s.schools.size(); i++) {
                if (s.schools.get(i).name.equals(name)) {
                    return i;
                }
            }
            return -1;
        }

        int known() {
            int i = index(name());
            if (i < 0) {
                throw bad(3);
            }
            return i;
        }

        void once(String what) {
            if (!told.add(what)) {
                throw bad(4);
            }
        }

        State parse() {
            while (!peek().isEmpty()) {
                statement();
                word(";");
            }
            return s;
        }

        void statement() {
            switch (peek()) {
                case "school": school(); break;
                case "zone": zone(); break;
                case "pupil": pupil(); break;
                case "child": child(); break;
                case "seed":
                    if (!s.children.isEmpty()) {
                        throw bad(4);
                    }
                    once("seed");
                    next++;
                    s.x = number(0, 999);
                    break;
                case "appeals":
                    once("appeals");
                    next++;
                    s.appeals = number(0, 9);
                    break;
                case "late":
                    once("late");
                    next++;
                    s.late = number(0, 1) == 1;
                    break;
                default: throw bad(1);
            }
        }

        void school() {
            if (s.schools.size() == 8) {
                throw bad(4);
            }
            next++;
            School school = new School();
            school.name = name();
            if (index(school.name) >= 0) {
                throw bad(3);
            }
            next++;
            school.capacity = number(0, 40);
            school.x = number(0, 99);
            school.y = number(0, 99);
            while (!peek().equals(";")) {
                int rule = RULES.indexOf(peek());
                if (rule < 0 || school.rules.contains(rule)) {
                    throw bad(1);
                }
                school.rules.add(rule);
                next++;
            }
            s.schools.add(school);
        }

        void zone() {
            next++;
            School school = s.schools.get(known());
            if (school.zone != null) {
                throw bad(3);
            }
            next++;
            int[] z = new int[4];
            z[0] = number(0, 99);
            z[1] = number(0, 99);
            z[2] = number(z[0], 99);
            z[3] = number(z[1], 99);
            school.zone = z;
        }

        void pupil() {
            if (s.pupils.size() == 20) {
                throw bad(4);
            }
            next++;
            int family = number(1, 99);
            s.pupils.add(new int[] {family, known()});
            next++;
        }

        void child() {
            if (s.children.size() == 40) {
                throw bad(4);
            }
            next++;
            Child c = new Child();
            c.x = number(0, 99);
            c.y = number(0, 99);
            if (peek().equals("care")) {
                c.care = true;
                next++;
            }
            if (peek().equals("family")) {
                next++;
                c.family = number(1, 99);
            }
            word("prefers");
            do {
                if (c.prefs.size() == 4) {
                    throw bad(1);
                }
                int wish = known();
                if (c.prefs.contains(wish)) {
                    throw bad(3);
                }
                c.prefs.add(wish);
                next++;
            } while (!peek().equals(";"));
            s.add(c);
        }
    }

    public int loadOffice() {
        String text = input;
        input = "";
        try {
            now = new Parser(text).parse();
        } catch (Bad e) {
            error = e.code;
            errorAt = e.at;
            return -1;
        }
        error = 0;
        errorAt = -1;
        saved = null;
        past.clear();
        return now.children.size();
    }

    public int errorCode() {
        return error;
    }

    public int errorOffset() {
        return errorAt;
    }

    // ---- questions

    private int number(java.util.function.Predicate<Child> is) {
        return (int) now.children.stream().filter(is).count();
    }

    private School needSchool(int school) {
        if (school < 0 || school >= now.schools.size()) {
            throw new IndexOutOfBoundsException();
        }
        return now.schools.get(school);
    }

    private Child needChild(int child) {
        if (child < 0 || child >= now.children.size()) {
            throw new IndexOutOfBoundsException();
        }
        return now.children.get(child);
    }

    private static void need(boolean is) {
        if (!is) {
            throw new IllegalArgumentException();
        }
    }

    private static int entry(List<Integer> list, int index) {
        if (index < 0 || index >= list.size()) {
            throw new NoSuchElementException();
        }
        return list.get(index);
    }

    private static List<Integer> numbers(List<Child> list) {
        List<Integer> numbers = new ArrayList<>();
        for (Child c : list) {
            numbers.add(c.number);
        }
        return numbers;
    }

    public int count(int what) {
        need(what >= 0 && what <= 11);
        int[] all = {now.schools.size(), now.children.size(), now.pupils.size(), number(c -> c.withdrawn),
            number(c -> c.place >= 0), number(c -> c.late), now.appeals, now.late ? 1 : 0,
            now.allocated ? 1 : 0, now.rounds, now.filled, past.size()};
        return all[what];
    }

    public int school(int school, int what) {
        School s = needSchool(school);
        need(what >= 0 && what <= 9);
        int[] all = {s.capacity, s.x, s.y, s.rules.size(), s.zone == null ? 0 : 1,
            (int) now.pupils.stream().filter(p -> p[1] == school).count(), number(c -> c.place == school),
            number(c -> c.place == school && c.appealed), s.graces, now.waiters(school).size()};
        return all[what];
    }

    public int rule(int school, int index) {
        return entry(needSchool(school).rules, index);
    }

    public int child(int child, int what) {
        Child c = needChild(child);
        need(what >= 0 && what <= 8);
        int[] all = {c.x, c.y, c.family, c.care ? 1 : 0, c.lot, c.prefs.size(), c.late ? 1 : 0,
            c.withdrawn ? 1 : 0, c.appealed ? 1 : 0};
        return all[what];
    }

    public int preference(int child, int index) {
        return entry(needChild(child).prefs, index);
    }

    public int placeOf(int child) {
        return needChild(child).place;
    }

    public int gotPreference(int child) {
        needChild(child);
        return now.got(child);
    }

    public boolean meets(int child, int school, int rule) {
        needChild(child);
        needSchool(school);
        need(rule >= 0 && rule <= 2);
        return now.meets(needChild(child), school, rule);
    }

    public int classOf(int child, int school) {
        needChild(child);
        needSchool(school);
        return now.classOf(needChild(child), school);
    }

    public int distance(int child, int school) {
        needChild(child);
        needSchool(school);
        return now.distance(needChild(child), school);
    }

    public boolean comesFirst(int school, int child, int other) {
        needSchool(school);
        return now.order(school).compare(needChild(child), needChild(other)) < 0;
    }

    public int holder(int school, int index) {
        needSchool(school);
        return entry(numbers(now.holders(school)), index);
    }

    public int waiting(int school, int index) {
        needSchool(school);
        return entry(numbers(now.waiters(school)), index);
    }

    public int waitingPlace(int child, int school) {
        needSchool(school);
        return now.waiters(school).indexOf(needChild(child));
    }

    public boolean hasClaim(int child, int school) {
        needSchool(school);
        return now.claim(needChild(child), school);
    }

    public int claims() {
        int n = 0;
        for (int s = 0; s < now.schools.size(); s++) {
            for (Child c : now.children) {
                n += now.claim(c, s) ? 1 : 0;
            }
        }
        return n;
    }

    public int roundOf(int child) {
        return needChild(child).round;
    }

    // ---- changes

    private void change() {
        past.addLast(now.copy());
        if (past.size() > 10) {
            past.removeFirst();
        }
    }

    public int allocate() {
        change();
        return now.allocate().rounds;
    }

    public int addChild(int x, int y, int family, boolean care, int preferences) {
        need(x >= 0 && x <= 99 && y >= 0 && y <= 99 && family >= 0 && family <= 99);
        Child c = new Child();
        need(Integer.toString(preferences).matches("[1-8]{1,4}"));
        for (char digit : Integer.toString(preferences).toCharArray()) {
            int wish = digit - '1';
            need(wish < now.schools.size() && !c.prefs.contains(wish));
            c.prefs.add(wish);
        }
        if (now.children.size() >= 40) {
            throw new IllegalStateException();
        }
        change();
        c.x = x;
        c.y = y;
        c.family = family;
        c.care = care;
        c.late = now.allocated;
        now.add(c);
        now.fill();
        return c.number;
    }

    public int withdraw(int child) {
        Child c = needChild(child);
        if (c.withdrawn) {
            throw new IllegalStateException();
        }
        change();
        int place = c.place;
        now.withdraw(child);
        now.fill();
        return place;
    }

    public int giveBack(int child) {
        Child c = needChild(child);
        if (c.place < 0) {
            throw new IllegalStateException();
        }
        change();
        int place = c.place;
        if (c.prefs.get(0) == place) {
            now.withdraw(child);
        } else {
            c.prefs = new ArrayList<>(c.prefs.subList(0, c.prefs.indexOf(place)));
            c.place = -1;
            c.appealed = false;
        }
        now.fill();
        return place;
    }

    public int moveHome(int child, int x, int y) {
        Child c = needChild(child);
        need(x >= 0 && x <= 99 && y >= 0 && y <= 99);
        change();
        Child before = c.copy();
        c.x = x;
        c.y = y;
        int n = (int) c.prefs.stream().filter(s -> now.classOf(c, s) != now.classOf(before, s)).count();
        now.fill();
        return n;
    }

    public int setCapacity(int school, int capacity) {
        School s = needSchool(school);
        need(capacity >= 0 && capacity <= 40);
        change();
        int before = s.capacity;
        s.capacity = capacity;
        now.fill();
        return before;
    }

    public int appeal(int child, int school) {
        Child c = needChild(child);
        School s = needSchool(school);
        if (!now.waits(c, school)) {
            throw new IllegalStateException();
        }
        change();
        int answer = now.claim(c, school) ? 2 : s.graces < now.appeals ? 1 : 0;
        if (answer == 1) {
            s.graces++;
        }
        if (answer > 0) {
            c.place = school;
            c.appealed = true;
        }
        now.fill();
        return answer;
    }

    public boolean setLate(boolean late) {
        change();
        boolean before = now.late;
        now.late = late;
        now.fill();
        return before;
    }

    // ---- figures

    public int lastHolder(int school) {
        needSchool(school);
        List<Child> list = now.holders(school);
        return list.isEmpty() ? -1 : list.get(list.size() - 1).number;
    }

    public float firstShare() {
        int placed = number(c -> c.place >= 0);
        int first = number(c -> c.place >= 0 && c.prefs.get(0) == c.place);
        return placed == 0 ? 0f : (float) first / (float) placed;
    }

    public double meanPreference() {
        int placed = number(c -> c.place >= 0);
        int sum = now.children.stream().mapToInt(c -> now.got(c.number) + 1).sum();
        return placed == 0 ? 0.0 : (double) sum / (double) placed;
    }

    private static double root(int v) {
        double r = v;
        for (int i = 0; i < 60 && v != 0; i++) {
            r = (r + v / r) / 2.0;
        }
        return r;
    }

    public float way(int child) {
        Child c = needChild(child);
        return c.place < 0 ? -1f : (float) root(now.distance(c, c.place));
    }

    public int wanted(int school, int index) {
        needSchool(school);
        return index < 0 ? 0
            : number(c -> !c.withdrawn && c.prefs.size() > index && c.prefs.get(index) == school);
    }

    public int inZone(int school) {
        needSchool(school);
        return number(c -> !c.withdrawn && now.meets(c, school, 2));
    }

    public int together() {
        TreeMap<Integer, List<Integer>> places = new TreeMap<>();
        for (Child c : now.children) {
            if (c.place >= 0 && c.family != 0) {
                places.computeIfAbsent(c.family, f -> new ArrayList<>()).add(c.place);
            }
        }
        return (int) places.values().stream()
            .filter(p -> p.size() >= 2 && new HashSet<>(p).size() == 1).count();
    }

    public int cutoff(int school, int what) {
        needSchool(school);
        need(what >= 0 && what <= 2);
        int last = lastHolder(school);
        if (last < 0) {
            return -1;
        }
        Child c = now.children.get(last);
        return new int[] {now.classOf(c, school), now.distance(c, school), c.lot}[what];
    }

    public int nearest(int child) {
        Child c = needChild(child);
        int best = -1;
        for (int s = now.schools.size() - 1; s >= 0; s--) {
            if (best < 0 || now.distance(c, s) <= now.distance(c, best)) {
                best = s;
            }
        }
        return best;
    }

    public int chainOf(int child) {
        if (needChild(child).withdrawn || !now.allocated) {
            return 0;
        }
        State s = now.copy();
        s.filled = 0;
        s.withdraw(child);
        s.fill();
        return s.filled;
    }

    public int freePlaces() {
        int sum = 0;
        for (int s = 0; s < now.schools.size(); s++) {
            sum += Math.max(0, now.schools.get(s).capacity - now.holders(s).size());
        }
        return sum;
    }

    private boolean exchange(Child a, Child b) {
        return a.place >= 0 && b.place >= 0 && now.waits(a, b.place) && now.waits(b, a.place);
    }

    public int tradePartner(int child) {
        Child c = needChild(child);
        return now.children.stream().filter(o -> exchange(c, o)).mapToInt(o -> o.number)
            .findFirst().orElse(-1);
    }

    public int trades() {
        int n = 0;
        for (Child a : now.children) {
            n += number(b -> b.number < a.number && exchange(a, b));
        }
        return n;
    }

    public int holdersOfClass(int school, int wanted) {
        needSchool(school);
        return (int) now.holders(school).stream().filter(c -> now.classOf(c, school) == wanted).count();
    }

    public int triesOf(int school) {
        needSchool(school);
        return (int) now.copy().allocate().children.stream()
            .filter(c -> !c.withdrawn && c.prefs.contains(school) && !c.untried.contains(school)).count();
    }

    public double meanWay() {
        int placed = number(c -> c.place >= 0);
        double sum = 0.0;
        for (Child c : now.children) {
            if (c.place >= 0) {
                sum += root(now.distance(c, c.place));
            }
        }
        return placed == 0 ? 0.0 : sum / placed;
    }

    public int mostWaited() {
        int best = -1;
        for (int s = 0; s < now.schools.size(); s++) {
            int length = now.waiters(s).size();
            if (length > (best < 0 ? 0 : now.waiters(best).size())) {
                best = s;
            }
        }
        return best;
    }

    public long siblings(int child) {
        Child c = needChild(child);
        long mask = 0;
        for (Child o : now.children) {
            if (o != c && !o.withdrawn && o.family == c.family && c.family != 0) {
                mask |= 1L << o.number;
            }
        }
        return mask;
    }

    // ---- what would be

    public int changedByAllocation() {
        State s = now.copy().allocate();
        return number(c -> c.place != s.children.get(c.number).place);
    }

    private int placedAt(int child, int school, int capacity) {
        State s = now.copy();
        s.schools.get(school).capacity = capacity;
        return s.allocate().children.get(child).place;
    }

    public int placeWith(int child, int school, int capacity) {
        needChild(child);
        needSchool(school);
        need(capacity >= 0 && capacity <= 40);
        return placedAt(child, school, capacity);
    }

    public int neededCapacity(int child, int school) {
        needChild(child);
        needSchool(school);
        for (int capacity = 0; capacity <= 40; capacity++) {
            if (placedAt(child, school, capacity) == school) {
                return capacity;
            }
        }
        return -1;
    }

    public long gainersWithout(int child) {
        needChild(child);
        State with = now.copy().allocate();
        State without = now.copy();
        without.withdraw(child);
        without.allocate();
        long mask = 0;
        for (int c = 0; c < now.children.size(); c++) {
            int a = with.got(c) < 0 ? 9 : with.got(c);
            int b = without.got(c) < 0 ? 9 : without.got(c);
            mask |= b < a ? 1L << c : 0;
        }
        return mask;
    }

    private static void orders(List<Integer> head, List<Integer> rest, List<List<Integer>> all) {
        if (rest.isEmpty()) {
            all.add(new ArrayList<>(head));
        }
        for (int i = 0; i < rest.size(); i++) {
            List<Integer> longer = new ArrayList<>(head);
            List<Integer> shorter = new ArrayList<>(rest);
            longer.add(shorter.remove(i));
            orders(longer, shorter, all);
        }
    }

    public int bestByOrder(int child) {
        List<Integer> prefs = needChild(child).prefs;
        List<List<Integer>> all = new ArrayList<>();
        orders(List.of(), prefs, all);
        int best = 9;
        for (List<Integer> order : all) {
            State s = now.copy();
            s.children.get(child).prefs = order;
            int place = s.allocate().children.get(child).place;
            if (place >= 0) {
                best = Math.min(best, prefs.indexOf(place));
            }
        }
        return best == 9 ? -1 : best;
    }

    // ---- output, undo, saved state

    public int printSchool(int school) {
        StringBuilder s = new StringBuilder(needSchool(school).name).append(":");
        for (Child c : now.holders(school)) {
            s.append(" ").append(c.number).append(c.appealed ? "*" : "");
        }
        s.append("/");
        for (Child c : now.waiters(school)) {
            s.append(" ").append(c.number);
        }
        output = s.toString();
        return output.length();
    }

    public int outputByte(int index) {
        return index < 0 || index >= output.length() ? -1 : output.charAt(index);
    }

    public int undo() {
        if (past.isEmpty()) {
            return -1;
        }
        now = past.removeLast();
        return past.size();
    }

    public int saveState() {
        saved = now.copy();
        return now.children.size();
    }

    public int restoreState() {
        if (saved == null) {
            throw new IllegalStateException();
        }
        now = saved.copy();
        past.clear();
        return now.children.size();
    }
}
