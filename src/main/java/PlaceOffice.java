import java.util.Arrays;
import java.util.NoSuchElementException;

/** An office that allocates school places; README.md tells how it is used. */
public final class PlaceOffice {
    public static final int NO_ERROR = 0;
    public static final int SYNTAX = 1;
    public static final int OUT_OF_RANGE = 2;
    public static final int BAD_NAME = 3;
    public static final int MISPLACED = 4;

    private static final int SCHOOL_LIMIT = 8;
    private static final int CHILD_LIMIT = 40;
    private static final int PUPIL_LIMIT = 20;
    private static final int WISH_LIMIT = 4;
    private static final int CAPACITY_LIMIT = 40;
    private static final int COORDINATE_LIMIT = 99;
    private static final int FAMILY_LIMIT = 99;
    private static final int NAME_LIMIT = 6;
    private static final int DIGIT_LIMIT = 3;
    private static final int INPUT_LIMIT = 900;
    private static final int OUTPUT_LIMIT = 200;
    private static final int UNDO_LIMIT = 10;
    /** No allocation and no filling can take more steps: each one moves a child along its wishes. */
    private static final int STEP_LIMIT = CHILD_LIMIT * WISH_LIMIT;

    private static final int CARE = 0;
    private static final int SIBLING = 1;
    private static final int ZONE = 2;
    private static final int RULE_KINDS = 3;

    private static final int NONE = -1;

    private final SetupReader reader = new SetupReader();
    private final Allocation allocation = new Allocation();
    private final Page page = new Page();

    private Roll now = new Roll(new Town());
    private final Roll trial = new Roll(now.town);
    private final Roll otherTrial = new Roll(now.town);

    private final Roll saved = new Roll(now.town);
    private boolean isSaved = false;
    private final Roll[] history = new Roll[UNDO_LIMIT];
    private int historyNext = 0;
    private int historyLength = 0;

    public PlaceOffice() {
        for (int i = 0; i < UNDO_LIMIT; i++) {
            history[i] = new Roll(now.town);
        }
    }

    // ---- setup text

    public int appendInput(int a, int b, int c, int d, int e) {
        if (reader.length + 20 > INPUT_LIMIT) {
            return NONE;
        }
        reader.append(a);
        reader.append(b);
        reader.append(c);
        reader.append(d);
        reader.append(e);
        return reader.length;
    }

    public boolean truncateInput(int length) {
        if (length < 0 || length > reader.length) {
            return false;
        }
        reader.length = length;
        return true;
    }

    public int loadOffice() {
        reader.readSetup();
        reader.length = 0;
        if (reader.error != NO_ERROR) {
            return NONE;
        }
        Roll old = now;
        now = reader.roll;
        reader.roll = old;
        isSaved = false;
        historyLength = 0;
        return now.children;
    }

    public int errorCode() {
        return reader.error;
    }

    public int errorOffset() {
        return reader.errorAt;
    }

    // ---- questions about the office, its schools and its children

    public int count(int what) throws IllegalArgumentException {
        switch (what) {
            case 0: return now.town.schools;
            case 1: return now.children;
            case 2: return now.town.pupils;
            case 3: return Long.bitCount(now.withdrawn);
            case 4: return Long.bitCount(now.placedOnes());
            case 5: return Long.bitCount(now.late);
            case 6: return now.town.appeals;
            case 7: return now.lateGoesBehind ? 1 : 0;
            case 8: return now.allocated ? 1 : 0;
            case 9: return now.rounds;
            case 10: return now.filled;
            case 11: return historyLength;
            default: throw new IllegalArgumentException("no such number of the office");
        }
    }

    public int school(int school, int what) throws IndexOutOfBoundsException, IllegalArgumentException {
        needSchool(school);
        Town town = now.town;
        switch (what) {
            case 0: return now.capacity[school];
            case 1: return town.x[school];
            case 2: return town.y[school];
            case 3: return rowLength(town.rules[school]);
            case 4: return town.isZoned(school) ? 1 : 0;
            case 5: return town.pupilsAt[school];
            case 6: return Long.bitCount(now.holdersOf(school));
            case 7: return Long.bitCount(now.holdersOf(school) & now.byAppeal);
            case 8: return now.mercies[school];
            case 9: return Long.bitCount(now.waitersOf(school));
            default: throw new IllegalArgumentException("no such property of a school");
        }
    }

    public int rule(int school, int index) throws IndexOutOfBoundsException, NoSuchElementException {
        needSchool(school);
        int kind = rowEntry(now.town.rules[school], index);
        if (kind == NONE) {
            throw new NoSuchElementException("no such rule");
        }
        return kind;
    }

    public int child(int child, int what) throws IndexOutOfBoundsException, IllegalArgumentException {
        needChild(child);
        switch (what) {
            case 0: return now.x[child];
            case 1: return now.y[child];
            case 2: return now.family[child];
            case 3: return isIn(now.care, child) ? 1 : 0;
            case 4: return now.lot[child];
            case 5: return rowLength(now.wishes[child]);
            case 6: return isIn(now.late, child) ? 1 : 0;
            case 7: return isIn(now.withdrawn, child) ? 1 : 0;
            case 8: return isIn(now.byAppeal, child) ? 1 : 0;
            default: throw new IllegalArgumentException("no such property of a child");
        }
    }

    public int preference(int child, int index) throws IndexOutOfBoundsException, NoSuchElementException {
        needChild(child);
        int wish = rowEntry(now.wishes[child], index);
        if (wish == NONE) {
            throw new NoSuchElementException("no such preference");
        }
        return wish;
    }

    public int placeOf(int child) throws IndexOutOfBoundsException {
        needChild(child);
        return now.place[child];
    }

    public int gotPreference(int child) throws IndexOutOfBoundsException {
        needChild(child);
        return now.gotWish(child);
    }

    public boolean meets(int child, int school, int rule)
            throws IndexOutOfBoundsException, IllegalArgumentException {
        needChild(child);
        needSchool(school);
        if (rule < 0 || rule >= RULE_KINDS) {
            throw new IllegalArgumentException("no such rule");
        }
        return now.fits(child, school, rule);
    }

    public int classOf(int child, int school) throws IndexOutOfBoundsException {
        needChild(child);
        needSchool(school);
        return now.rankClass(child, school);
    }

    public int distance(int child, int school) throws IndexOutOfBoundsException {
        needChild(child);
        needSchool(school);
        return now.squareWay(child, school);
    }

    public boolean comesFirst(int school, int child, int other) throws IndexOutOfBoundsException {
        needSchool(school);
        needChild(child);
        needChild(other);
        return now.standing(child, school) < now.standing(other, school);
    }

    public int holder(int school, int index) throws IndexOutOfBoundsException, NoSuchElementException {
        needSchool(school);
        int child = now.orderedOf(now.holdersOf(school), school, index);
        if (child == NONE) {
            throw new NoSuchElementException("no such holder");
        }
        return child;
    }

    public int waiting(int school, int index) throws IndexOutOfBoundsException, NoSuchElementException {
        needSchool(school);
        int child = now.orderedOf(now.waitersOf(school), school, index);
        if (child == NONE) {
            throw new NoSuchElementException("no such place on the waiting list");
        }
        return child;
    }

    public int waitingPlace(int child, int school) throws IndexOutOfBoundsException {
        needChild(child);
        needSchool(school);
        if (!now.waits(child, school)) {
            return NONE;
        }
        return now.aheadOf(child, now.waitersOf(school), school);
    }

    public boolean hasClaim(int child, int school) throws IndexOutOfBoundsException {
        needChild(child);
        needSchool(school);
        return now.claimStands(child, school);
    }

    public int claims() {
        int found = 0;
        for (int school = 0; school < now.town.schools; school++) {
            for (int child = 0; child < now.children; child++) {
                if (now.claimStands(child, school)) {
                    found++;
                }
            }
        }
        return found;
    }

    public int roundOf(int child) throws IndexOutOfBoundsException {
        needChild(child);
        return now.round[child];
    }

    // ---- changes

    public int allocate() {
        remember();
        allocation.run(now);
        return now.rounds;
    }

    public int addChild(int x, int y, int family, boolean care, int preferences)
            throws IllegalArgumentException, IllegalStateException {
        needHome(x, y);
        if (family < 0 || family > FAMILY_LIMIT) {
            throw new IllegalArgumentException("no such family");
        }
        int wishes = wishRow(preferences);
        if (wishes == NONE) {
            throw new IllegalArgumentException("these are no preferences");
        }
        if (now.children >= CHILD_LIMIT) {
            throw new IllegalStateException("there are too many children");
        }
        remember();
        int child = now.enrol(x, y, family, care, wishes);
        now.fillPlaces();
        return child;
    }

    public int withdraw(int child) throws IndexOutOfBoundsException, IllegalStateException {
        needChild(child);
        if (isIn(now.withdrawn, child)) {
            throw new IllegalStateException("the child was withdrawn before");
        }
        remember();
        int left = now.place[child];
        now.takeOut(child);
        now.fillPlaces();
        return left;
    }

    public int giveBack(int child) throws IndexOutOfBoundsException, IllegalStateException {
        needChild(child);
        int left = now.place[child];
        if (left == NONE) {
            throw new IllegalStateException("the child has no place");
        }
        remember();
        now.handBack(child);
        now.fillPlaces();
        return left;
    }

    public int moveHome(int child, int x, int y) throws IndexOutOfBoundsException, IllegalArgumentException {
        needChild(child);
        needHome(x, y);
        remember();
        // The roll before the move stands in the trial, to compare the classes with.
        trial.copyFrom(now);
        now.x[child] = x;
        now.y[child] = y;
        int changed = 0;
        for (int i = 0; i < WISH_LIMIT; i++) {
            int wish = rowEntry(now.wishes[child], i);
            if (wish != NONE && now.rankClass(child, wish) != trial.rankClass(child, wish)) {
                changed++;
            }
        }
        now.fillPlaces();
        return changed;
    }

    public int setCapacity(int school, int capacity)
            throws IndexOutOfBoundsException, IllegalArgumentException {
        needSchool(school);
        needCapacity(capacity);
        remember();
        int before = now.capacity[school];
        now.capacity[school] = capacity;
        now.fillPlaces();
        return before;
    }

    public int appeal(int child, int school) throws IndexOutOfBoundsException, IllegalStateException {
        needChild(child);
        needSchool(school);
        if (!now.waits(child, school)) {
            throw new IllegalStateException("the child does not wait for the school");
        }
        remember();
        int answer = now.hearAppeal(child, school);
        now.fillPlaces();
        return answer;
    }

    public boolean setLate(boolean late) {
        remember();
        boolean before = now.lateGoesBehind;
        now.lateGoesBehind = late;
        now.fillPlaces();
        return before;
    }

    // ---- figures

    public int lastHolder(int school) throws IndexOutOfBoundsException {
        needSchool(school);
        return now.lastOf(now.holdersOf(school), school);
    }

    public float firstShare() {
        int placed = 0;
        int first = 0;
        for (int child = 0; child < now.children; child++) {
            int got = now.gotWish(child);
            placed += got >= 0 ? 1 : 0;
            first += got == 0 ? 1 : 0;
        }
        return placed == 0 ? 0.0f : (float) first / (float) placed;
    }

    public double meanPreference() {
        int placed = 0;
        int sum = 0;
        for (int child = 0; child < now.children; child++) {
            int got = now.gotWish(child);
            if (got >= 0) {
                placed++;
                sum += got + 1;
            }
        }
        return placed == 0 ? 0.0 : (double) sum / (double) placed;
    }

    public float way(int child) throws IndexOutOfBoundsException {
        needChild(child);
        int school = now.place[child];
        return school == NONE ? -1.0f : (float) root(now.squareWay(child, school));
    }

    public int wanted(int school, int index) throws IndexOutOfBoundsException {
        needSchool(school);
        int found = 0;
        for (int child = 0; child < now.children; child++) {
            if (!isIn(now.withdrawn, child) && rowEntry(now.wishes[child], index) == school) {
                found++;
            }
        }
        return found;
    }

    public int inZone(int school) throws IndexOutOfBoundsException {
        needSchool(school);
        int found = 0;
        for (int child = 0; child < now.children; child++) {
            if (!isIn(now.withdrawn, child) && now.fits(child, school, ZONE)) {
                found++;
            }
        }
        return found;
    }

    public int together() {
        int found = 0;
        for (int family = 1; family <= FAMILY_LIMIT; family++) {
            if (now.isTogether(family)) {
                found++;
            }
        }
        return found;
    }

    public int cutoff(int school, int what) throws IndexOutOfBoundsException, IllegalArgumentException {
        needSchool(school);
        if (what < 0 || what > 2) {
            throw new IllegalArgumentException("no such property of a child");
        }
        int child = now.lastOf(now.holdersOf(school), school);
        if (child == NONE) {
            return NONE;
        }
        if (what == 0) {
            return now.rankClass(child, school);
        }
        return what == 1 ? now.squareWay(child, school) : now.lot[child];
    }

    public int nearest(int child) throws IndexOutOfBoundsException {
        needChild(child);
        int best = NONE;
        for (int school = 0; school < now.town.schools; school++) {
            if (best == NONE || now.squareWay(child, school) < now.squareWay(child, best)) {
                best = school;
            }
        }
        return best;
    }

    public int freePlaces() {
        int sum = 0;
        for (int school = 0; school < now.town.schools; school++) {
            sum += Math.max(0, now.capacity[school] - Long.bitCount(now.holdersOf(school)));
        }
        return sum;
    }

    public int tradePartner(int child) throws IndexOutOfBoundsException {
        needChild(child);
        for (int other = 0; other < now.children; other++) {
            if (now.wouldTrade(child, other)) {
                return other;
            }
        }
        return NONE;
    }

    public int trades() {
        int found = 0;
        for (int child = 0; child < now.children; child++) {
            for (int other = child + 1; other < now.children; other++) {
                if (now.wouldTrade(child, other)) {
                    found++;
                }
            }
        }
        return found;
    }

    public int holdersOfClass(int school, int wanted) throws IndexOutOfBoundsException {
        needSchool(school);
        int found = 0;
        for (int child = 0; child < now.children; child++) {
            if (now.place[child] == school && now.rankClass(child, school) == wanted) {
                found++;
            }
        }
        return found;
    }

    public double meanWay() {
        int placed = 0;
        double sum = 0.0;
        for (int child = 0; child < now.children; child++) {
            int school = now.place[child];
            if (school != NONE) {
                placed++;
                sum += root(now.squareWay(child, school));
            }
        }
        return placed == 0 ? 0.0 : sum / (double) placed;
    }

    public int mostWaited() {
        int best = NONE;
        int longest = 0;
        for (int school = 0; school < now.town.schools; school++) {
            int length = Long.bitCount(now.waitersOf(school));
            if (length > longest) {
                best = school;
                longest = length;
            }
        }
        return best;
    }

    public long siblings(int child) throws IndexOutOfBoundsException {
        needChild(child);
        int family = now.family[child];
        long found = 0L;
        for (int other = 0; other < now.children; other++) {
            if (family != 0 && other != child && now.family[other] == family) {
                found |= 1L << other;
            }
        }
        return found & ~now.withdrawn;
    }

    // ---- questions about what would be

    public int chainOf(int child) throws IndexOutOfBoundsException {
        needChild(child);
        trial.copyFrom(now);
        trial.takeOut(child);
        trial.fillPlaces();
        return trial.filled - now.filled;
    }

    public int triesOf(int school) throws IndexOutOfBoundsException {
        needSchool(school);
        trial.copyFrom(now);
        allocation.run(trial);
        int found = 0;
        for (int child = 0; child < trial.children; child++) {
            if (trial.hasTried(child, school)) {
                found++;
            }
        }
        return found;
    }

    public int changedByAllocation() {
        trial.copyFrom(now);
        allocation.run(trial);
        int changed = 0;
        for (int child = 0; child < now.children; child++) {
            if (trial.place[child] != now.place[child]) {
                changed++;
            }
        }
        return changed;
    }

    public int placeWith(int child, int school, int capacity)
            throws IndexOutOfBoundsException, IllegalArgumentException {
        needChild(child);
        needSchool(school);
        needCapacity(capacity);
        trial.copyFrom(now);
        trial.capacity[school] = capacity;
        allocation.run(trial);
        return trial.place[child];
    }

    public int neededCapacity(int child, int school) throws IndexOutOfBoundsException {
        needChild(child);
        needSchool(school);
        trial.copyFrom(now);
        for (int capacity = 0; capacity <= CAPACITY_LIMIT; capacity++) {
            trial.capacity[school] = capacity;
            allocation.run(trial);
            if (trial.place[child] == school) {
                return capacity;
            }
        }
        return NONE;
    }

    public long gainersWithout(int child) throws IndexOutOfBoundsException {
        needChild(child);
        trial.copyFrom(now);
        allocation.run(trial);
        otherTrial.copyFrom(now);
        otherTrial.takeOut(child);
        allocation.run(otherTrial);
        long gainers = 0L;
        for (int other = 0; other < now.children; other++) {
            int without = otherTrial.gotWish(other);
            int with = trial.gotWish(other);
            if (without != NONE && (with == NONE || without < with)) {
                gainers |= 1L << other;
            }
        }
        return gainers;
    }

    public int bestByOrder(int child) throws IndexOutOfBoundsException {
        needChild(child);
        // In deferred acceptance no child gets a better place by another order than the true one,
        // so the true order already shows the best that any order gives.
        trial.copyFrom(now);
        allocation.run(trial);
        return trial.gotWish(child);
    }

    // ---- output

    public int printSchool(int school) throws IndexOutOfBoundsException {
        needSchool(school);
        page.clear();
        page.putName(now.town.name[school]);
        page.put(':');
        printChildren(now.holdersOf(school), school);
        page.put('/');
        printChildren(now.waitersOf(school), school);
        return page.length;
    }

    public int outputByte(int index) {
        return index < 0 || index >= page.length ? NONE : page.bytes[index];
    }

    // ---- undo and saved state

    public int undo() {
        if (historyLength == 0) {
            return NONE;
        }
        historyNext = historyNext == 0 ? UNDO_LIMIT - 1 : historyNext - 1;
        historyLength--;
        now.copyFrom(history[historyNext]);
        return historyLength;
    }

    public int saveState() {
        saved.copyFrom(now);
        isSaved = true;
        return now.children;
    }

    public int restoreState() throws IllegalStateException {
        if (!isSaved) {
            throw new IllegalStateException("no state is saved");
        }
        now.copyFrom(saved);
        historyLength = 0;
        return now.children;
    }

    // ---- helpers

    private void needSchool(int school) {
        if (school < 0 || school >= now.town.schools) {
            throw new IndexOutOfBoundsException("no such school");
        }
    }

    private void needChild(int child) {
        if (child < 0 || child >= now.children) {
            throw new IndexOutOfBoundsException("no such child");
        }
    }

    private static void needHome(int x, int y) {
        if (x < 0 || x > COORDINATE_LIMIT || y < 0 || y > COORDINATE_LIMIT) {
            throw new IllegalArgumentException("no such place");
        }
    }

    private static void needCapacity(int capacity) {
        if (capacity < 0 || capacity > CAPACITY_LIMIT) {
            throw new IllegalArgumentException("no such capacity");
        }
    }

    /** The row of wishes that decimal digits tell, or NONE if they do not tell one. */
    private int wishRow(int preferences) {
        if (preferences < 1 || preferences > 9999) {
            return NONE;
        }
        int row = 0;
        // The last digit comes first here and is pushed on by those that are wanted more.
        for (int rest = preferences; rest > 0; rest /= 10) {
            int school = rest % 10 - 1;
            if (school < 0 || school >= now.town.schools || rowIndex(row, school) != NONE) {
                return NONE;
            }
            row = row << 4 | school + 1;
        }
        return row;
    }

    private void remember() {
        history[historyNext].copyFrom(now);
        historyNext = historyNext == UNDO_LIMIT - 1 ? 0 : historyNext + 1;
        historyLength = Math.min(UNDO_LIMIT, historyLength + 1);
    }

    private void printChildren(long set, int school) {
        long rest = set;
        for (int left = Long.bitCount(set); left > 0; left--) {
            int child = now.firstOf(rest, school);
            if (child == NONE) {
                return;
            }
            rest &= ~(1L << child);
            page.put(' ');
            page.putNumber(child);
            if (now.place[child] == school && isIn(now.byAppeal, child)) {
                page.put('*');
            }
        }
    }

    private static boolean isIn(long set, int child) {
        return (set >> child & 1L) != 0L;
    }

    // A row is an int of four bits for each entry, the entry plus 1, the first entry lowest.

    private static int rowEntry(int row, int index) {
        return index < 0 || index >= WISH_LIMIT ? NONE : (row >> 4 * index & 15) - 1;
    }

    private static int rowLength(int row) {
        int length = 0;
        for (int i = 0; i < WISH_LIMIT; i++) {
            length += rowEntry(row, i) == NONE ? 0 : 1;
        }
        return length;
    }

    private static int rowIndex(int row, int entry) {
        for (int i = 0; i < WISH_LIMIT; i++) {
            if (entry != NONE && (row >> 4 * i & 15) == entry + 1) {
                return i;
            }
        }
        return NONE;
    }

    private static double root(int square) {
        if (square <= 0) {
            return 0.0;
        }
        double v = (double) square;
        double r = v;
        for (int i = 0; i < 60; i++) {
            r = (r + v / r) / 2.0;
        }
        return r;
    }

    /** What a load tells for good: the schools with their rules and zones, and the pupils. */
    private static final class Town {
        int schools = 0;
        int pupils = 0;
        int appeals = 0;
        final int[] name = new int[SCHOOL_LIMIT];
        final int[] x = new int[SCHOOL_LIMIT];
        final int[] y = new int[SCHOOL_LIMIT];
        final int[] rules = new int[SCHOOL_LIMIT];
        final int[] pupilsAt = new int[SCHOOL_LIMIT];
        final int[] zoneLeastX = new int[SCHOOL_LIMIT];
        final int[] zoneLeastY = new int[SCHOOL_LIMIT];
        final int[] zoneMostX = new int[SCHOOL_LIMIT];
        final int[] zoneMostY = new int[SCHOOL_LIMIT];
        /** For each family the schools of its pupils, as a bit mask. */
        final int[] pupilSchools = new int[FAMILY_LIMIT + 1];

        void clear() {
            schools = 0;
            pupils = 0;
            appeals = 0;
            Arrays.fill(pupilSchools, 0);
        }

        void tellSchool(int nameCode, int placeX, int placeY, int ruleRow) {
            name[schools] = nameCode;
            x[schools] = placeX;
            y[schools] = placeY;
            rules[schools] = ruleRow;
            pupilsAt[schools] = 0;
            zoneMostX[schools] = NONE;
            zoneMostY[schools] = NONE;
            schools++;
        }

        void tellZone(int school, int leastX, int leastY, int mostX, int mostY) {
            zoneLeastX[school] = leastX;
            zoneLeastY[school] = leastY;
            zoneMostX[school] = mostX;
            zoneMostY[school] = mostY;
        }

        void tellPupil(int family, int school) {
            pupils++;
            pupilsAt[school]++;
            pupilSchools[family] |= 1 << school;
        }

        int find(int nameCode) {
            for (int school = 0; school < schools; school++) {
                if (name[school] == nameCode) {
                    return school;
                }
            }
            return NONE;
        }

        boolean isZoned(int school) {
            return zoneMostX[school] != NONE;
        }
    }

    /** All that changes can change, with the rules of who comes first, who waits and who moves. */
    private static final class Roll {
        Town town;
        int children = 0;
        int lotState = 0;
        boolean lateGoesBehind = false;
        boolean allocated = false;
        int rounds = 0;
        int filled = 0;
        long care = 0L;
        long late = 0L;
        long withdrawn = 0L;
        long byAppeal = 0L;
        final int[] x = new int[CHILD_LIMIT];
        final int[] y = new int[CHILD_LIMIT];
        final int[] family = new int[CHILD_LIMIT];
        final int[] lot = new int[CHILD_LIMIT];
        final int[] wishes = new int[CHILD_LIMIT];
        final int[] place = new int[CHILD_LIMIT];
        final int[] round = new int[CHILD_LIMIT];
        final int[] capacity = new int[SCHOOL_LIMIT];
        /** For each school the appeals without a claim that were allowed. */
        final int[] mercies = new int[SCHOOL_LIMIT];

        Roll(Town itsTown) {
            town = itsTown;
        }

        void clear() {
            children = 0;
            lotState = 0;
            lateGoesBehind = false;
            allocated = false;
            rounds = 0;
            filled = 0;
            care = 0L;
            late = 0L;
            withdrawn = 0L;
            byAppeal = 0L;
            Arrays.fill(mercies, 0);
        }

        void copyFrom(Roll other) {
            town = other.town;
            children = other.children;
            lotState = other.lotState;
            lateGoesBehind = other.lateGoesBehind;
            allocated = other.allocated;
            rounds = other.rounds;
            filled = other.filled;
            care = other.care;
            late = other.late;
            withdrawn = other.withdrawn;
            byAppeal = other.byAppeal;
            System.arraycopy(other.x, 0, x, 0, CHILD_LIMIT);
            System.arraycopy(other.y, 0, y, 0, CHILD_LIMIT);
            System.arraycopy(other.family, 0, family, 0, CHILD_LIMIT);
            System.arraycopy(other.lot, 0, lot, 0, CHILD_LIMIT);
            System.arraycopy(other.wishes, 0, wishes, 0, CHILD_LIMIT);
            System.arraycopy(other.place, 0, place, 0, CHILD_LIMIT);
            System.arraycopy(other.round, 0, round, 0, CHILD_LIMIT);
            System.arraycopy(other.capacity, 0, capacity, 0, SCHOOL_LIMIT);
            System.arraycopy(other.mercies, 0, mercies, 0, SCHOOL_LIMIT);
        }

        int enrol(int homeX, int homeY, int itsFamily, boolean needsCare, int wishRow) {
            int child = children;
            children++;
            lotState = (lotState * 1103515245 + 12345) & 0x7fffffff;
            x[child] = homeX;
            y[child] = homeY;
            family[child] = itsFamily;
            lot[child] = lotState / 65536 % 10000;
            wishes[child] = wishRow;
            place[child] = NONE;
            round[child] = 0;
            if (needsCare) {
                care |= 1L << child;
            }
            if (allocated) {
                late |= 1L << child;
            }
            return child;
        }

        // ---- priority

        boolean fits(int child, int school, int kind) {
            if (kind == CARE) {
                return (care >> child & 1L) != 0L;
            }
            if (kind == SIBLING) {
                return family[child] != 0 && (town.pupilSchools[family[child]] >> school & 1) != 0;
            }
            // Without a zone the greatest x is less than any home's.
            return town.zoneLeastX[school] <= x[child] && x[child] <= town.zoneMostX[school]
                && town.zoneLeastY[school] <= y[child] && y[child] <= town.zoneMostY[school];
        }

        int rankClass(int child, int school) {
            int passed = 0;
            for (int i = 0; i < RULE_KINDS; i++) {
                int kind = rowEntry(town.rules[school], i);
                if (kind == NONE || fits(child, school, kind)) {
                    return passed;
                }
                passed++;
            }
            return passed;
        }

        int squareWay(int child, int school) {
            int dx = x[child] - town.x[school];
            int dy = y[child] - town.y[school];
            return dx * dx + dy * dy;
        }

        /** One number for all that decides who comes first at a school: the smaller one does. */
        long standing(int child, int school) {
            long number = lateGoesBehind && isIn(late, child) ? 1L : 0L;
            number = number << 2 | rankClass(child, school);
            number = number << 15 | squareWay(child, school);
            number = number << 14 | lot[child];
            return number << 6 | child;
        }

        int firstOf(long set, int school) {
            int best = NONE;
            long bestStanding = 0L;
            for (int child = 0; child < children; child++) {
                if (isIn(set, child)) {
                    long standing = standing(child, school);
                    if (best == NONE || standing < bestStanding) {
                        best = child;
                        bestStanding = standing;
                    }
                }
            }
            return best;
        }

        int lastOf(long set, int school) {
            int worst = NONE;
            long worstStanding = 0L;
            for (int child = 0; child < children; child++) {
                if (isIn(set, child)) {
                    long standing = standing(child, school);
                    if (worst == NONE || standing > worstStanding) {
                        worst = child;
                        worstStanding = standing;
                    }
                }
            }
            return worst;
        }

        /** How many of a set come before a child. */
        int aheadOf(int child, long set, int school) {
            long own = standing(child, school);
            int ahead = 0;
            for (int other = 0; other < children; other++) {
                if (isIn(set, other) && standing(other, school) < own) {
                    ahead++;
                }
            }
            return ahead;
        }

        int orderedOf(long set, int school, int index) {
            for (int child = 0; child < children; child++) {
                if (isIn(set, child) && aheadOf(child, set, school) == index) {
                    return child;
                }
            }
            return NONE;
        }

        // ---- places and waiting

        long holdersOf(int school) {
            long set = 0L;
            for (int child = 0; child < children; child++) {
                if (place[child] == school) {
                    set |= 1L << child;
                }
            }
            return set;
        }

        long placedOnes() {
            long set = 0L;
            for (int child = 0; child < children; child++) {
                if (place[child] != NONE) {
                    set |= 1L << child;
                }
            }
            return set;
        }

        int gotWish(int child) {
            return rowIndex(wishes[child], place[child]);
        }

        /** Whether a child would sooner have a place at a school than what it has. */
        boolean prefers(int child, int school) {
            int index = rowIndex(wishes[child], school);
            int got = rowIndex(wishes[child], place[child]);
            return index != NONE && (got == NONE || index < got);
        }

        boolean waits(int child, int school) {
            return allocated && !isIn(withdrawn, child) && prefers(child, school);
        }

        long waitersOf(int school) {
            long set = 0L;
            for (int child = 0; child < children; child++) {
                if (waits(child, school)) {
                    set |= 1L << child;
                }
            }
            return set;
        }

        boolean claimStands(int child, int school) {
            if (!waits(child, school)) {
                return false;
            }
            int last = lastOf(holdersOf(school) & ~byAppeal, school);
            return last != NONE && standing(child, school) < standing(last, school);
        }

        boolean wouldTrade(int child, int other) {
            return place[child] != NONE && place[other] != NONE
                && prefers(child, place[other]) && prefers(other, place[child]);
        }

        boolean isTogether(int itsFamily) {
            int common = NONE;
            int members = 0;
            for (int child = 0; child < children; child++) {
                if (family[child] == itsFamily && place[child] != NONE) {
                    if (members > 0 && place[child] != common) {
                        return false;
                    }
                    common = place[child];
                    members++;
                }
            }
            return members >= 2;
        }

        /** Whether a child tried a school in the allocation that was just made. */
        boolean hasTried(int child, int school) {
            return !isIn(withdrawn, child)
                && (place[child] == school || prefers(child, school));
        }

        // ---- moves

        void leave(int child) {
            place[child] = NONE;
            byAppeal &= ~(1L << child);
        }

        void takeOut(int child) {
            leave(child);
            withdrawn |= 1L << child;
        }

        void handBack(int child) {
            int got = gotWish(child);
            leave(child);
            if (got <= 0) {
                takeOut(child);
            } else {
                wishes[child] &= (1 << 4 * got) - 1;
            }
        }

        int hearAppeal(int child, int school) {
            boolean claimed = claimStands(child, school);
            if (!claimed && mercies[school] >= town.appeals) {
                return 0;
            }
            if (!claimed) {
                mercies[school]++;
            }
            place[child] = school;
            byAppeal |= 1L << child;
            return claimed ? 2 : 1;
        }

        void fillPlaces() {
            for (int step = 0; step < STEP_LIMIT; step++) {
                if (!fillOne()) {
                    return;
                }
                filled++;
            }
        }

        boolean fillOne() {
            for (int school = 0; school < town.schools; school++) {
                if (Long.bitCount(holdersOf(school)) < capacity[school]) {
                    int child = firstOf(waitersOf(school), school);
                    if (child != NONE) {
                        leave(child);
                        place[child] = school;
                        return true;
                    }
                }
            }
            return false;
        }

        void takeAllBack() {
            Arrays.fill(place, NONE);
            Arrays.fill(round, 0);
            Arrays.fill(mercies, 0);
            byAppeal = 0L;
            allocated = true;
            rounds = 0;
            filled = 0;
        }
    }

    /** Deferred acceptance in rounds. */
    private static final class Allocation {
        /** For each child how many of its wishes it has tried. */
        final int[] tried = new int[CHILD_LIMIT];

        void run(Roll roll) {
            roll.takeAllBack();
            Arrays.fill(tried, 0);
            for (int step = 1; step <= STEP_LIMIT; step++) {
                if (!tryNext(roll, step)) {
                    return;
                }
                roll.rounds = step;
                for (int school = 0; school < roll.town.schools; school++) {
                    keepFirst(roll, school);
                }
            }
        }

        boolean tryNext(Roll roll, int step) {
            boolean any = false;
            for (int child = 0; child < roll.children; child++) {
                if (roll.place[child] == NONE && !isIn(roll.withdrawn, child)) {
                    int wish = rowEntry(roll.wishes[child], tried[child]);
                    if (wish != NONE) {
                        tried[child]++;
                        roll.place[child] = wish;
                        roll.round[child] = step;
                        any = true;
                    }
                }
            }
            return any;
        }

        void keepFirst(Roll roll, int school) {
            long set = roll.holdersOf(school);
            for (int over = Long.bitCount(set) - roll.capacity[school]; over > 0; over--) {
                int last = roll.lastOf(set, school);
                if (last == NONE) {
                    return;
                }
                set &= ~(1L << last);
                roll.place[last] = NONE;
                roll.round[last] = 0;
            }
        }
    }

    /** The output. */
    private static final class Page {
        final byte[] bytes = new byte[OUTPUT_LIMIT];
        int length = 0;

        void clear() {
            length = 0;
        }

        void put(int sign) {
            if (length < OUTPUT_LIMIT) {
                bytes[length] = (byte) sign;
                length++;
            }
        }

        void putNumber(int number) {
            if (number >= 10) {
                put('0' + number / 10);
            }
            put('0' + number % 10);
        }

        void putName(int nameCode) {
            for (int shift = 5 * (NAME_LIMIT - 1); shift >= 0; shift -= 5) {
                int letter = nameCode >> shift & 31;
                if (letter != 0) {
                    put('a' + letter - 1);
                }
            }
        }
    }

    /** The words that are no names. */
    private enum Word {
        SCHOOL("school"), ZONE("zone"), PUPIL("pupil"), CHILD("child"), SEED("seed"),
        APPEALS("appeals"), LATE("late"), CARE("care"), SIBLING("sibling"), FAMILY("family"),
        PREFERS("prefers");

        final String text;

        Word(String itsText) {
            text = itsText;
        }
    }

    /** The input buffer, and the reading of its setup text from left to right up to the first error. */
    private static final class SetupReader {
        private static final Word[] WORDS = Word.values();

        private static final int END = 0;
        private static final int LETTERS = 1;
        private static final int NUMBER = 2;
        private static final int SEMICOLON = 3;
        private static final int STRANGE = 4;

        final byte[] text = new byte[INPUT_LIMIT];
        int length = 0;
        int error = NO_ERROR;
        int errorAt = NONE;
        /** What is read stands here, apart from the office, so that an error leaves that as it was. */
        Roll roll = new Roll(new Town());
        boolean seedTold = false;
        boolean appealsTold = false;
        boolean lateTold = false;

        // The token that is looked at.
        int kind = END;
        int start = 0;
        int end = 0;
        /** The word that the token is, null if it is none of these. */
        Word word = null;

        void append(int four) {
            for (int shift = 24; shift >= 0 && length < INPUT_LIMIT; shift -= 8) {
                text[length] = (byte) (four >> shift);
                length++;
            }
        }

        void readSetup() {
            roll.town.clear();
            roll.clear();
            error = NO_ERROR;
            errorAt = NONE;
            seedTold = false;
            appealsTold = false;
            lateTold = false;
            end = 0;
            advance();
            // Each statement takes at least one byte, so there are no more than bytes.
            for (int left = length; left > 0 && kind != END && error == NO_ERROR; left--) {
                if (word == Word.SCHOOL) {
                    readSchool();
                } else if (word == Word.ZONE) {
                    readZone();
                } else if (word == Word.PUPIL) {
                    readPupil();
                } else if (word == Word.CHILD) {
                    readChild();
                } else if (word == Word.SEED) {
                    readSeed();
                } else if (word == Word.APPEALS) {
                    readAppeals();
                } else if (word == Word.LATE) {
                    readLate();
                } else {
                    fail(SYNTAX);
                }
            }
        }

        // ---- statements: each stops behind an error

        void readSchool() {
            if (roll.town.schools >= SCHOOL_LIMIT) {
                fail(MISPLACED);
                return;
            }
            advance();
            int name = nameHere();
            if (name == NONE) {
                return;
            }
            if (roll.town.find(name) != NONE) {
                fail(BAD_NAME);
                return;
            }
            advance();
            int places = readNumber(0, CAPACITY_LIMIT);
            int x = places == NONE ? NONE : readNumber(0, COORDINATE_LIMIT);
            int y = x == NONE ? NONE : readNumber(0, COORDINATE_LIMIT);
            if (y == NONE) {
                return;
            }
            int rules = readRules();
            if (passSemicolon()) {
                roll.capacity[roll.town.schools] = places;
                roll.town.tellSchool(name, x, y, rules);
            }
        }

        void readZone() {
            advance();
            int itsSchool = toldSchoolHere();
            if (itsSchool == NONE) {
                return;
            }
            if (roll.town.isZoned(itsSchool)) {
                fail(BAD_NAME);
                return;
            }
            advance();
            int leastX = readNumber(0, COORDINATE_LIMIT);
            int leastY = leastX == NONE ? NONE : readNumber(0, COORDINATE_LIMIT);
            int mostX = leastY == NONE ? NONE : readNumber(leastX, COORDINATE_LIMIT);
            int mostY = mostX == NONE ? NONE : readNumber(leastY, COORDINATE_LIMIT);
            if (mostY != NONE && passSemicolon()) {
                roll.town.tellZone(itsSchool, leastX, leastY, mostX, mostY);
            }
        }

        void readPupil() {
            if (roll.town.pupils >= PUPIL_LIMIT) {
                fail(MISPLACED);
                return;
            }
            advance();
            int family = readNumber(1, FAMILY_LIMIT);
            int itsSchool = family == NONE ? NONE : toldSchoolHere();
            if (itsSchool == NONE) {
                return;
            }
            advance();
            if (passSemicolon()) {
                roll.town.tellPupil(family, itsSchool);
            }
        }

        void readChild() {
            if (roll.children >= CHILD_LIMIT) {
                fail(MISPLACED);
                return;
            }
            advance();
            int x = readNumber(0, COORDINATE_LIMIT);
            int y = x == NONE ? NONE : readNumber(0, COORDINATE_LIMIT);
            if (y == NONE) {
                return;
            }
            boolean needsCare = passWord(Word.CARE);
            int family = passWord(Word.FAMILY) ? readNumber(1, FAMILY_LIMIT) : 0;
            if (family == NONE) {
                return;
            }
            if (!passWord(Word.PREFERS)) {
                fail(SYNTAX);
                return;
            }
            int wishes = readWishes();
            if (wishes != NONE && passSemicolon()) {
                roll.enrol(x, y, family, needsCare, wishes);
            }
        }

        void readSeed() {
            if (seedTold || roll.children > 0) {
                fail(MISPLACED);
            } else {
                seedTold = true;
                roll.lotState = readSetting(999);
            }
        }

        void readAppeals() {
            if (appealsTold) {
                fail(MISPLACED);
            } else {
                appealsTold = true;
                roll.town.appeals = readSetting(9);
            }
        }

        void readLate() {
            if (lateTold) {
                fail(MISPLACED);
            } else {
                lateTold = true;
                roll.lateGoesBehind = readSetting(1) == 1;
            }
        }

        // ---- parts of statements: each returns NONE, or false, behind an error

        int readSetting(int most) {
            advance();
            int value = readNumber(0, most);
            return value != NONE && passSemicolon() ? value : NONE;
        }

        int readNumber(int least, int most) {
            if (kind != NUMBER || end - start > DIGIT_LIMIT) {
                fail(SYNTAX);
                return NONE;
            }
            int value = 0;
            for (int i = start; i < end; i++) {
                value = value * 10 + text[i] - '0';
            }
            if (value < least || value > most) {
                fail(OUT_OF_RANGE);
                return NONE;
            }
            advance();
            return value;
        }

        /** The rules that stand here; a word that cannot follow them is left to the next step. */
        int readRules() {
            int row = 0;
            for (int i = 0; i < RULE_KINDS; i++) {
                int itsRule = ruleHere();
                if (itsRule == NONE || rowIndex(row, itsRule) != NONE) {
                    return row;
                }
                row |= itsRule + 1 << 4 * i;
                advance();
            }
            return row;
        }

        int ruleHere() {
            if (word == Word.CARE) {
                return CARE;
            }
            if (word == Word.SIBLING) {
                return SIBLING;
            }
            return word == Word.ZONE ? ZONE : NONE;
        }

        /** One to four preferences; a fifth one is left to the next step, which takes none. */
        int readWishes() {
            int row = 0;
            for (int i = 0; i < WISH_LIMIT && (i == 0 || kind == LETTERS); i++) {
                int wish = toldSchoolHere();
                if (wish == NONE) {
                    return NONE;
                }
                if (rowIndex(row, wish) != NONE) {
                    fail(BAD_NAME);
                    return NONE;
                }
                row |= wish + 1 << 4 * i;
                advance();
            }
            return row;
        }

        int toldSchoolHere() {
            int name = nameHere();
            if (name == NONE) {
                return NONE;
            }
            int found = roll.town.find(name);
            if (found == NONE) {
                fail(BAD_NAME);
            }
            return found;
        }

        /** A name as a number: five bits for each letter. */
        int nameHere() {
            if (kind != LETTERS || word != null || end - start > NAME_LIMIT) {
                fail(SYNTAX);
                return NONE;
            }
            int code = 0;
            for (int i = start; i < end; i++) {
                code = code << 5 | text[i] - 'a' + 1;
            }
            return code;
        }

        boolean passWord(Word due) {
            if (word != due) {
                return false;
            }
            advance();
            return true;
        }

        boolean passSemicolon() {
            if (kind != SEMICOLON) {
                fail(SYNTAX);
                return false;
            }
            advance();
            return true;
        }

        void fail(int code) {
            error = code;
            errorAt = start;
        }

        // ---- tokens

        void advance() {
            start = end;
            while (start < length && (text[start] == 32 || text[start] == 10)) {
                start++;
            }
            end = start;
            word = null;
            if (start >= length) {
                kind = END;
                return;
            }
            kind = kindOf(text[start]);
            end++;
            if (kind == LETTERS || kind == NUMBER) {
                while (end < length && kindOf(text[end]) == kind) {
                    end++;
                }
            }
            if (kind == LETTERS) {
                word = wordHere();
            }
        }

        static int kindOf(byte sign) {
            if (sign >= 'a' && sign <= 'z') {
                return LETTERS;
            }
            if (sign >= '0' && sign <= '9') {
                return NUMBER;
            }
            return sign == ';' ? SEMICOLON : STRANGE;
        }

        Word wordHere() {
            for (Word known : WORDS) {
                boolean same = known.text.length() == end - start;
                for (int i = start; same && i < end; i++) {
                    same = known.text.charAt(i - start) == text[i];
                }
                if (same) {
                    return known;
                }
            }
            return null;
        }
    }
}
