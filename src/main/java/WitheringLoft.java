import java.util.NoSuchElementException;

/** A withering loft for tea, as ../shared/DOC.md promises it. */
public final class WitheringLoft {
    public static final int NONE = -1;
    public static final int BOTTOM = 0, TOP = 1;
    public static final int ALLOWED = 0, NO_LEAF = 1, TOO_DRY = 2, TOO_MOIST = 3;

    private static final int MAX_INPUT = 600;
    private static final int APPENDED_BYTES = 20;
    private static final int MAX_TROUGHS = 8;
    private static final int MAX_PROBES = 6;
    private static final int MAX_MONSOONS = 3;
    private static final int MAX_REMEMBERED = 8;

    private static final int MAX_HOUR = 2000;
    private static final int HOURS_A_DAY = 24;
    private static final int MONSOON_HOURS = 7 * HOURS_A_DAY;
    private static final int LAST_MONSOON_DAY = 83;
    private static final int MONSOON_HUMIDITY = 95;
    private static final int MIN_HUMIDITY = 20, MAX_HUMIDITY = 95, FIRST_HUMIDITY = 60;
    private static final int MAX_HEAT = 5;

    private static final int MIN_CAPACITY = 10, MAX_CAPACITY = 500;
    private static final int MAX_SPEED = 5;
    private static final int MIN_LOADED_MOISTURE = 600, MAX_MOISTURE = 900, MIN_MOISTURE = 300;
    private static final int MAX_WARMTH = 20, HARMFUL_WARMTH = 10;
    private static final int WEIGHT_OF_A_KILOGRAM = 2000;
    private static final int MIN_TARGET = 500, MAX_TARGET = 700, FIRST_TARGET = 580;
    private static final int MIN_TOLERANCE = 5, MAX_TOLERANCE = 50, FIRST_TOLERANCE = 20;
    private static final int MAX_ERROR = 50;

    private static final int MAX_PASSED_HOURS = 200;
    private static final int MAX_FORESEEN_HOURS = 200;
    private static final int MAX_REVERSAL_HOURS = 100;
    private static final int MAX_DAMAGE_HOURS = 20;

    private final Loft loft = new Loft();
    private final Loft snapshot = new Loft();
    private boolean snapshotSaved;
    private final History history = new History();
    private final Script script = new Script();
    private final Report report = new Report();
    /** Hours pass for it in place of a trough, so that a prediction changes no trough. */
    private final Trough trial = new Trough();

    public WitheringLoft() {
        loft.placeTrough(100);
        loft.placeTrough(200);
        loft.placeTrough(50);
        loft.putLeaf(loft.troughAt(0), 50, 760);
        loft.putLeaf(loft.troughAt(1), 200, 780);
        loft.troughAt(0).speed = 3;
        loft.troughAt(1).speed = 4;
        loft.air.addMonsoon(1);
        loft.placeProbe(0, TOP, 10);
        loft.placeProbe(1, BOTTOM, -5);
        loft.letHoursPass(2);
        loft.troughAt(0).upwards = false;
        loft.letHoursPass(1);
    }

    // ---- input

    public int append(int a, int b, int c, int d, int e) {
        Input input = script.text;
        if (input.length > MAX_INPUT - APPENDED_BYTES) {
            return NONE;
        }
        input.addBytesOf(a);
        input.addBytesOf(b);
        input.addBytesOf(c);
        input.addBytesOf(d);
        input.addBytesOf(e);
        return input.length;
    }

    public int truncateInput(int length) throws IllegalArgumentException {
        requireRange(length, 0, script.text.length);
        script.text.length = length;
        return length;
    }

    // ---- changes

    public int runScript() {
        boolean succeeded = script.run();
        script.text.length = 0;
        if (!succeeded) {
            return NONE;
        }
        history.remember(loft);
        loft.become(script.draft);
        return loft.troughCount;
    }

    public int addTrough(int capacity) throws IllegalArgumentException, IllegalStateException {
        requireRange(capacity, MIN_CAPACITY, MAX_CAPACITY);
        refuseIf(!loft.hasRoomForTrough());
        history.remember(loft);
        return loft.placeTrough(capacity);
    }

    public int load(int trough, int kilograms, int moisture)
            throws IndexOutOfBoundsException, IllegalArgumentException, IllegalStateException {
        Trough place = existingTrough(trough);
        requireRange(kilograms, 1, place.capacity);
        requireRange(moisture, MIN_LOADED_MOISTURE, MAX_MOISTURE);
        refuseIf(place.hasLeaf());
        history.remember(loft);
        loft.putLeaf(place, kilograms, moisture);
        return place.fill;
    }

    public int setFan(int trough, int speed) throws IndexOutOfBoundsException, IllegalArgumentException {
        Trough place = existingTrough(trough);
        requireRange(speed, 0, MAX_SPEED);
        history.remember(loft);
        int previous = place.speed;
        place.speed = speed;
        return previous;
    }

    public boolean reverse(int trough) throws IndexOutOfBoundsException {
        Trough place = existingTrough(trough);
        history.remember(loft);
        place.upwards = !place.upwards;
        return place.upwards;
    }

    public int setHeat(int level) throws IllegalArgumentException {
        requireRange(level, 0, MAX_HEAT);
        history.remember(loft);
        int previous = loft.air.heatLevel;
        loft.air.heatLevel = level;
        return previous;
    }

    public int setHumidity(int percent) throws IllegalArgumentException {
        requireRange(percent, MIN_HUMIDITY, MAX_HUMIDITY);
        history.remember(loft);
        int previous = loft.air.usualHumidity;
        loft.air.usualHumidity = percent;
        return previous;
    }

    public int announceMonsoon(int day) throws IllegalArgumentException, IllegalStateException {
        requireRange(day, loft.air.presentDay(), LAST_MONSOON_DAY);
        refuseIf(!loft.air.hasRoomForMonsoon());
        history.remember(loft);
        loft.air.addMonsoon(day);
        return loft.air.monsoonCount;
    }

    public int setTarget(int target, int tolerance) throws IllegalArgumentException {
        requireRange(target, MIN_TARGET, MAX_TARGET);
        requireRange(tolerance, MIN_TOLERANCE, MAX_TOLERANCE);
        history.remember(loft);
        loft.aimAt(target, tolerance);
        return Integer.bitCount(loft.setOfReady());
    }

    public int turnLeaf(int trough) throws IndexOutOfBoundsException, IllegalStateException {
        Trough place = existingTrough(trough);
        refuseIf(!place.hasLeaf());
        history.remember(loft);
        place.mixLayers();
        return place.top;
    }

    public int discharge(int trough) throws IndexOutOfBoundsException, IllegalStateException {
        Trough place = existingTrough(trough);
        refuseIf(loft.refusalOf(place) != ALLOWED);
        history.remember(loft);
        return loft.dischargeLeaf(place);
    }

    public int discard(int trough) throws IndexOutOfBoundsException, IllegalStateException {
        Trough place = existingTrough(trough);
        refuseIf(!place.hasLeaf());
        history.remember(loft);
        return loft.discardLeaf(place);
    }

    public int addProbe(int trough, int layer, int error)
            throws IndexOutOfBoundsException, IllegalArgumentException, IllegalStateException {
        existingTrough(trough);
        requireRange(layer, BOTTOM, TOP);
        requireRange(error, -MAX_ERROR, MAX_ERROR);
        refuseIf(!loft.hasRoomForProbe());
        history.remember(loft);
        return loft.placeProbe(trough, layer, error);
    }

    public int moveProbe(int probe, int trough, int layer)
            throws IndexOutOfBoundsException, IllegalArgumentException {
        Probe moved = existingProbe(probe);
        existingTrough(trough);
        requireRange(layer, BOTTOM, TOP);
        history.remember(loft);
        int previous = moved.trough;
        moved.trough = trough;
        moved.layer = layer;
        return previous;
    }

    public int calibrate(int probe) throws IndexOutOfBoundsException {
        Probe calibrated = existingProbe(probe);
        history.remember(loft);
        int previous = calibrated.error;
        calibrated.error = 0;
        return previous;
    }

    public int passHours(int hours) throws IllegalArgumentException, IllegalStateException {
        requireRange(hours, 1, MAX_PASSED_HOURS);
        refuseIf(!loft.air.hasHoursLeft(hours));
        history.remember(loft);
        loft.letHoursPass(hours);
        return loft.air.hour;
    }

    // ---- undo and the snapshot

    public int undo() {
        if (history.count == 0) {
            return NONE;
        }
        history.takeBack(loft);
        return history.count;
    }

    public int undoCount() {
        return history.count;
    }

    public int saveSnapshot() {
        snapshot.become(loft);
        snapshotSaved = true;
        return loft.air.hour;
    }

    public int restoreSnapshot() throws NoSuchElementException {
        if (!snapshotSaved) {
            throw new NoSuchElementException("no snapshot was saved");
        }
        loft.become(snapshot);
        history.count = 0;
        return loft.air.hour;
    }

    // ---- the script error

    public int scriptErrorKind() {
        return script.errorKind;
    }

    public int scriptErrorOffset() {
        return script.errorKind == 0 ? NONE : script.errorOffset;
    }

    // ---- time and air

    public int hour() {
        return loft.air.hour;
    }

    public int day() {
        return loft.air.presentDay();
    }

    public int humidityAt(int hour) throws IllegalArgumentException {
        requireRange(hour, 0, MAX_HOUR);
        return loft.air.humidityOf(hour);
    }

    public int dryness() {
        return loft.air.drynessOf(loft.air.hour);
    }

    public int hoursToMonsoon() {
        return loft.air.hoursToNextMonsoon();
    }

    public boolean isMonsoon() {
        return loft.air.hasMonsoonAt(loft.air.hour);
    }

    // ---- troughs

    public int troughCount() {
        return loft.troughCount;
    }

    public int probeCount() {
        return loft.probeCount;
    }

    public int capacity(int trough) throws IndexOutOfBoundsException {
        return existingTrough(trough).capacity;
    }

    public int kilograms(int trough) throws IndexOutOfBoundsException {
        return existingTrough(trough).kilograms;
    }

    public int fill(int trough) throws IndexOutOfBoundsException {
        return existingTrough(trough).fill;
    }

    public int speed(int trough) throws IndexOutOfBoundsException {
        return existingTrough(trough).speed;
    }

    public boolean isUpwards(int trough) throws IndexOutOfBoundsException {
        return existingTrough(trough).upwards;
    }

    public int moisture(int trough, int layer) throws IndexOutOfBoundsException, IllegalArgumentException {
        Trough place = existingTrough(trough);
        requireRange(layer, BOTTOM, TOP);
        return place.hasLeaf() ? place.moistureOf(layer) : NONE;
    }

    public int spread(int trough) throws IndexOutOfBoundsException {
        Trough place = existingTrough(trough);
        return place.hasLeaf() ? place.gap() : NONE;
    }

    public int warmth(int trough) throws IndexOutOfBoundsException {
        Trough place = existingTrough(trough);
        return place.hasLeaf() ? place.warmth : NONE;
    }

    public int damage(int trough) throws IndexOutOfBoundsException {
        Trough place = existingTrough(trough);
        return place.hasLeaf() ? place.damage : NONE;
    }

    public int marks(int trough) throws IndexOutOfBoundsException {
        Trough place = existingTrough(trough);
        return place.hasLeaf() ? place.quality() : NONE;
    }

    public int loss(int trough) throws IndexOutOfBoundsException {
        return existingTrough(trough).lossAt(loft.air.drynessOf(loft.air.hour));
    }

    public int whyNoDischarge(int trough) throws IndexOutOfBoundsException {
        return loft.refusalOf(existingTrough(trough));
    }

    public int readyTroughs() {
        return loft.setOfReady();
    }

    public int weight(int trough) throws IndexOutOfBoundsException {
        return existingTrough(trough).weight;
    }

    // ---- probes

    public int reading(int probe) throws IndexOutOfBoundsException {
        return loft.readingOf(existingProbe(probe));
    }

    public int probeTrough(int probe) throws IndexOutOfBoundsException {
        return existingProbe(probe).trough;
    }

    public int probeLayer(int probe) throws IndexOutOfBoundsException {
        return existingProbe(probe).layer;
    }

    public int meanReading(int trough) throws IndexOutOfBoundsException {
        existingTrough(trough);
        return loft.meanReadingOf(trough);
    }

    // ---- predictions: only hours pass

    public int moistureAfter(int trough, int layer, int hours)
            throws IndexOutOfBoundsException, IllegalArgumentException {
        Trough place = existingTrough(trough);
        requireRange(layer, BOTTOM, TOP);
        requireRange(hours, 0, MAX_FORESEEN_HOURS);
        if (!place.hasLeaf()) {
            return NONE;
        }
        trial.become(place);
        letTrialPass(hours);
        return trial.moistureOf(layer);
    }

    public int hoursToReady(int trough) throws IndexOutOfBoundsException {
        Trough place = existingTrough(trough);
        if (!place.hasLeaf()) {
            return NONE;
        }
        trial.become(place);
        for (int hours = 0; hours <= MAX_FORESEEN_HOURS; hours++) {
            if (loft.isReady(trial)) {
                return hours;
            }
            trial.passHour(loft.air.drynessOf(loft.air.hour + hours));
        }
        return NONE;
    }

    public int hoursToDamage(int trough) throws IndexOutOfBoundsException {
        Trough place = existingTrough(trough);
        if (!place.hasLeaf()) {
            return NONE;
        }
        trial.become(place);
        for (int hours = 1; hours <= MAX_DAMAGE_HOURS; hours++) {
            trial.passHour(loft.air.drynessOf(loft.air.hour + hours - 1));
            if (trial.damage > place.damage) {
                return hours;
            }
        }
        return NONE;
    }

    public int bestReversal(int trough, int hours) throws IndexOutOfBoundsException, IllegalArgumentException {
        Trough place = existingTrough(trough);
        requireRange(hours, 1, MAX_REVERSAL_HOURS);
        return place.hasLeaf() ? bestHourToReverse(place, hours) : NONE;
    }

    public int slowestSpeed(int trough, int hours) throws IndexOutOfBoundsException, IllegalArgumentException {
        Trough place = existingTrough(trough);
        requireRange(hours, 0, MAX_FORESEEN_HOURS);
        if (!place.hasLeaf()) {
            return NONE;
        }
        for (int speed = 0; speed <= MAX_SPEED; speed++) {
            trial.become(place);
            trial.speed = speed;
            letTrialPass(hours);
            if (loft.isReady(trial)) {
                return speed;
            }
        }
        return NONE;
    }

    // ---- accounts and checks

    public int dischargedKilograms() {
        return loft.dischargedKilograms;
    }

    public int discardedKilograms() {
        return loft.discardedKilograms;
    }

    public int totalWorth() {
        return loft.totalWorth;
    }

    public int lostWater() {
        return loft.lostWater;
    }

    public double meanMoisture() {
        int layers = 2 * loft.countWithLeaf();
        return layers == 0 ? 0.0 : (double) loft.sumOfMoistures() / (double) layers;
    }

    public float readyShare() {
        int withLeaf = loft.countWithLeaf();
        return withLeaf == 0 ? 0.0f : (float) Integer.bitCount(loft.setOfReady()) / (float) withLeaf;
    }

    public int violations() {
        return loft.countViolations();
    }

    // ---- the report

    public int writeTroughs() {
        report.writeAll(loft);
        return report.length;
    }

    public int reportByte(int index) {
        return report.byteAt(index);
    }

    private Trough existingTrough(int number) {
        if (!loft.hasTrough(number)) {
            throw new IndexOutOfBoundsException("no such trough");
        }
        return loft.troughAt(number);
    }

    private Probe existingProbe(int number) {
        if (!loft.hasProbe(number)) {
            throw new IndexOutOfBoundsException("no such probe");
        }
        return loft.probeAt(number);
    }

    private static void requireRange(int value, int low, int high) {
        if (value < low || value > high) {
            throw new IllegalArgumentException("out of range");
        }
    }

    private static void refuseIf(boolean refused) {
        if (refused) {
            throw new IllegalStateException("not possible now");
        }
    }

    private void letTrialPass(int hours) {
        for (int passed = 0; passed < hours; passed++) {
            trial.passHour(loft.air.drynessOf(loft.air.hour + passed));
        }
    }

    /**
     * Tries each hour without passing all hours again for it: what is at the lowest moisture stays there,
     * so only the sum of a layer's decreases counts, and a later reversal moves one hour's difference
     * from the one sum to the other.
     */
    private int bestHourToReverse(Trough place, int hours) {
        int entered = place.upwards ? place.bottom : place.top;
        int other = place.upwards ? place.top : place.bottom;
        for (int passed = 0; passed < hours; passed++) {
            int loss = place.lossAt(loft.air.drynessOf(loft.air.hour + passed));
            entered -= loss / 2;
            other -= loss;
        }
        int best = 0;
        int smallest = Math.abs(notBelowLowest(entered) - notBelowLowest(other));
        for (int passed = 0; passed < hours; passed++) {
            int loss = place.lossAt(loft.air.drynessOf(loft.air.hour + passed));
            entered -= loss - loss / 2;
            other += loss - loss / 2;
            int gap = Math.abs(notBelowLowest(entered) - notBelowLowest(other));
            if (gap < smallest) {
                smallest = gap;
                best = passed + 1;
            }
        }
        return best;
    }

    private static int notBelowLowest(int moisture) {
        return moisture < MIN_MOISTURE ? MIN_MOISTURE : moisture;
    }

    /** The hour and what decides how dry the air is. */
    private static final class Air {
        int hour;
        int usualHumidity;
        int heatLevel;
        int monsoonCount;
        final int[] monsoonDays = new int[MAX_MONSOONS];

        void clear() {
            hour = 0;
            usualHumidity = FIRST_HUMIDITY;
            heatLevel = 0;
            monsoonCount = 0;
        }

        void become(Air other) {
            hour = other.hour;
            usualHumidity = other.usualHumidity;
            heatLevel = other.heatLevel;
            monsoonCount = other.monsoonCount;
            for (int i = 0; i < MAX_MONSOONS; i++) {
                monsoonDays[i] = other.monsoonDays[i];
            }
        }

        int presentDay() {
            return hour / HOURS_A_DAY;
        }

        boolean hasHoursLeft(int hours) {
            return hours <= MAX_HOUR - hour;
        }

        boolean hasRoomForMonsoon() {
            return monsoonCount < MAX_MONSOONS;
        }

        void addMonsoon(int day) {
            if (monsoonCount >= 0 && monsoonCount < MAX_MONSOONS) {
                monsoonDays[monsoonCount] = day;
                monsoonCount++;
            }
        }

        boolean hasMonsoonAt(int someHour) {
            for (int i = 0; i < monsoonCount && i < MAX_MONSOONS; i++) {
                int begun = someHour - monsoonDays[i] * HOURS_A_DAY;
                if (begun >= 0 && begun < MONSOON_HOURS) {
                    return true;
                }
            }
            return false;
        }

        int hoursToNextMonsoon() {
            int nearest = NONE;
            for (int i = 0; i < monsoonCount && i < MAX_MONSOONS; i++) {
                int hours = monsoonDays[i] * HOURS_A_DAY - hour;
                if (hours > 0 && (nearest == NONE || hours < nearest)) {
                    nearest = hours;
                }
            }
            return nearest;
        }

        int humidityOf(int someHour) {
            return hasMonsoonAt(someHour) ? MONSOON_HUMIDITY : usualHumidity;
        }

        int drynessOf(int someHour) {
            return 100 - humidityOf(someHour) + 5 * heatLevel;
        }
    }

    /** A trough, its fan and its leaf; without leaf all that tells of leaf is 0. */
    private static final class Trough {
        int capacity;
        int speed;
        boolean upwards;
        int kilograms;
        int fill;
        int weight;
        int bottom;
        int top;
        int warmth;
        int damage;

        void build(int newCapacity) {
            capacity = newCapacity;
            speed = 0;
            upwards = true;
            removeLeaf();
        }

        void become(Trough other) {
            capacity = other.capacity;
            speed = other.speed;
            upwards = other.upwards;
            kilograms = other.kilograms;
            fill = other.fill;
            weight = other.weight;
            bottom = other.bottom;
            top = other.top;
            warmth = other.warmth;
            damage = other.damage;
        }

        boolean hasLeaf() {
            return kilograms > 0;
        }

        void takeLeaf(int newKilograms, int moisture) {
            kilograms = newKilograms;
            fill = capacity <= 0 ? 0 : newKilograms * 100 / capacity;
            weight = newKilograms * WEIGHT_OF_A_KILOGRAM;
            bottom = moisture;
            top = moisture;
            warmth = 0;
            damage = 0;
        }

        void removeLeaf() {
            kilograms = 0;
            fill = 0;
            weight = 0;
            bottom = 0;
            top = 0;
            warmth = 0;
            damage = 0;
        }

        /** No water is lost by it: what one layer gives the other takes. */
        void mixLayers() {
            int sum = bottom + top;
            bottom = sum / 2;
            top = sum - bottom;
            damage += 2;
        }

        int moistureOf(int layer) {
            return layer == BOTTOM ? bottom : top;
        }

        int gap() {
            return Math.abs(bottom - top);
        }

        int quality() {
            int left = 100 - gap() - 2 * damage;
            return left < 0 ? 0 : left;
        }

        int lossAt(int dryness) {
            int divisor = 100 + fill;
            return !hasLeaf() || divisor <= 0 ? 0 : speed * dryness * 60 / divisor;
        }

        /** Answers the water that the leaf loses. */
        int passHour(int dryness) {
            if (!hasLeaf()) {
                return 0;
            }
            int water = loseMoisture(lossAt(dryness));
            if (speed > 0) {
                warmth = warmth < speed ? 0 : warmth - speed;
            } else if (warmth < MAX_WARMTH) {
                warmth++;
            }
            if (warmth >= HARMFUL_WARMTH) {
                damage++;
            }
            return water;
        }

        private int loseMoisture(int loss) {
            int before = bottom + top;
            bottom = notBelowLowest(bottom - (upwards ? loss : loss / 2));
            top = notBelowLowest(top - (upwards ? loss / 2 : loss));
            int water = (before - bottom - top) * kilograms;
            weight -= water;
            return water;
        }

        int countViolations() {
            if (!hasLeaf()) {
                return 0;
            }
            int count = kilograms > capacity ? 1 : 0;
            count += bottom < MIN_MOISTURE || bottom > MAX_MOISTURE ? 1 : 0;
            count += top < MIN_MOISTURE || top > MAX_MOISTURE ? 1 : 0;
            count += warmth < 0 || warmth > MAX_WARMTH ? 1 : 0;
            return count;
        }
    }

    private static final class Probe {
        int trough;
        int layer;
        int error;

        void become(Probe other) {
            trough = other.trough;
            layer = other.layer;
            error = other.error;
        }
    }

    /** Everything that undo restores. A trough or probe that is not there has its object all the same. */
    private static final class Loft {
        final Air air = new Air();
        final Trough[] troughs = new Trough[MAX_TROUGHS];
        int troughCount;
        final Probe[] probes = new Probe[MAX_PROBES];
        int probeCount;
        int target;
        int tolerance;
        int loadedKilograms;
        int dischargedKilograms;
        int discardedKilograms;
        int removedWeight;
        int totalWorth;
        int lostWater;

        Loft() {
            for (int i = 0; i < MAX_TROUGHS; i++) {
                troughs[i] = new Trough();
            }
            for (int i = 0; i < MAX_PROBES; i++) {
                probes[i] = new Probe();
            }
            clear();
        }

        void clear() {
            air.clear();
            for (int i = 0; i < MAX_TROUGHS; i++) {
                troughs[i].build(0);
            }
            troughCount = 0;
            probeCount = 0;
            target = FIRST_TARGET;
            tolerance = FIRST_TOLERANCE;
            loadedKilograms = 0;
            dischargedKilograms = 0;
            discardedKilograms = 0;
            removedWeight = 0;
            totalWorth = 0;
            lostWater = 0;
        }

        void become(Loft other) {
            air.become(other.air);
            for (int i = 0; i < MAX_TROUGHS; i++) {
                troughs[i].become(other.troughs[i]);
            }
            troughCount = other.troughCount;
            for (int i = 0; i < MAX_PROBES; i++) {
                probes[i].become(other.probes[i]);
            }
            probeCount = other.probeCount;
            target = other.target;
            tolerance = other.tolerance;
            loadedKilograms = other.loadedKilograms;
            dischargedKilograms = other.dischargedKilograms;
            discardedKilograms = other.discardedKilograms;
            removedWeight = other.removedWeight;
            totalWorth = other.totalWorth;
            lostWater = other.lostWater;
        }

        boolean hasTrough(int number) {
            return number >= 0 && number < troughCount;
        }

        /** Callers test the number by hasTrough; the first trough stands in so that no index ever fails. */
        Trough troughAt(int number) {
            return number >= 0 && number < MAX_TROUGHS ? troughs[number] : troughs[0];
        }

        boolean hasProbe(int number) {
            return number >= 0 && number < probeCount;
        }

        /** Callers test the number by hasProbe; the first probe stands in so that no index ever fails. */
        Probe probeAt(int number) {
            return number >= 0 && number < MAX_PROBES ? probes[number] : probes[0];
        }

        boolean hasRoomForTrough() {
            return troughCount < MAX_TROUGHS;
        }

        int placeTrough(int capacity) {
            troughAt(troughCount).build(capacity);
            troughCount++;
            return troughCount - 1;
        }

        boolean hasRoomForProbe() {
            return probeCount < MAX_PROBES;
        }

        int placeProbe(int trough, int layer, int error) {
            Probe placed = probeAt(probeCount);
            placed.trough = trough;
            placed.layer = layer;
            placed.error = error;
            probeCount++;
            return probeCount - 1;
        }

        void aimAt(int newTarget, int newTolerance) {
            target = newTarget;
            tolerance = newTolerance;
        }

        void putLeaf(Trough place, int kilograms, int moisture) {
            place.takeLeaf(kilograms, moisture);
            loadedKilograms += kilograms;
        }

        int dischargeLeaf(Trough place) {
            int worth = place.kilograms * place.quality() / 100;
            totalWorth += worth;
            dischargedKilograms += place.kilograms;
            removedWeight += place.weight;
            place.removeLeaf();
            return worth;
        }

        int discardLeaf(Trough place) {
            int kilograms = place.kilograms;
            discardedKilograms += kilograms;
            removedWeight += place.weight;
            place.removeLeaf();
            return kilograms;
        }

        void letHoursPass(int hours) {
            for (int passed = 0; passed < hours; passed++) {
                int dryness = air.drynessOf(air.hour);
                for (int i = 0; i < troughCount && i < MAX_TROUGHS; i++) {
                    lostWater += troughs[i].passHour(dryness);
                }
                air.hour++;
                if (air.hour % HOURS_A_DAY == 0) {
                    ageProbes();
                }
            }
        }

        private void ageProbes() {
            for (int i = 0; i < probeCount && i < MAX_PROBES; i++) {
                if (probes[i].error < MAX_ERROR) {
                    probes[i].error++;
                }
            }
        }

        boolean isTooDry(Trough place) {
            return place.bottom < target - tolerance || place.top < target - tolerance;
        }

        boolean isReady(Trough place) {
            return place.hasLeaf() && !isTooDry(place)
                    && place.bottom <= target + tolerance && place.top <= target + tolerance;
        }

        int refusalOf(Trough place) {
            if (!place.hasLeaf()) {
                return NO_LEAF;
            }
            if (isTooDry(place)) {
                return TOO_DRY;
            }
            return isReady(place) ? ALLOWED : TOO_MOIST;
        }

        int setOfReady() {
            int set = 0;
            for (int i = 0; i < MAX_TROUGHS; i++) {
                if (isReady(troughs[i])) {
                    set |= 1 << i;
                }
            }
            return set;
        }

        int countWithLeaf() {
            int count = 0;
            for (int i = 0; i < MAX_TROUGHS; i++) {
                count += troughs[i].hasLeaf() ? 1 : 0;
            }
            return count;
        }

        int sumOfMoistures() {
            int sum = 0;
            for (int i = 0; i < MAX_TROUGHS; i++) {
                sum += troughs[i].bottom + troughs[i].top;
            }
            return sum;
        }

        int readingOf(Probe probe) {
            Trough place = troughAt(probe.trough);
            return place.hasLeaf() ? place.moistureOf(probe.layer) + probe.error : NONE;
        }

        int meanReadingOf(int trough) {
            int sum = 0;
            int count = 0;
            for (int i = 0; i < probeCount && i < MAX_PROBES; i++) {
                if (probes[i].trough == trough) {
                    sum += readingOf(probes[i]);
                    count++;
                }
            }
            return count == 0 || !troughAt(trough).hasLeaf() ? NONE : Math.floorDiv(sum, count);
        }

        int countViolations() {
            int kilograms = dischargedKilograms + discardedKilograms;
            int weights = removedWeight + lostWater;
            int count = 0;
            for (int i = 0; i < MAX_TROUGHS; i++) {
                kilograms += troughs[i].kilograms;
                weights += troughs[i].weight;
                count += troughs[i].countViolations();
            }
            count += Math.abs(loadedKilograms - kilograms);
            count += Math.abs(loadedKilograms * WEIGHT_OF_A_KILOGRAM - weights);
            return count;
        }
    }

    /** The lofts before the latest changes, in a ring, so that remembering makes no object. */
    private static final class History {
        final Loft[] ring = new Loft[MAX_REMEMBERED];
        int next;
        int count;

        History() {
            for (int i = 0; i < MAX_REMEMBERED; i++) {
                ring[i] = new Loft();
            }
        }

        void remember(Loft loft) {
            ring[Math.floorMod(next, MAX_REMEMBERED)].become(loft);
            next = Math.floorMod(next + 1, MAX_REMEMBERED);
            if (count < MAX_REMEMBERED) {
                count++;
            }
        }

        void takeBack(Loft loft) {
            next = Math.floorMod(next - 1, MAX_REMEMBERED);
            loft.become(ring[next]);
            count--;
        }
    }

    private static final class Input {
        final byte[] bytes = new byte[MAX_INPUT];
        int length;

        void addBytesOf(int word) {
            for (int shift = 24; shift >= 0; shift -= 8) {
                if (length >= 0 && length < MAX_INPUT) {
                    bytes[length] = (byte) (word >> shift);
                    length++;
                }
            }
        }

        int byteAt(int index) {
            return index >= 0 && index < length && index < MAX_INPUT ? bytes[index] & 0xFF : NONE;
        }
    }

    private enum Token { WORD, NUMBER, OPEN, CLOSE, SEMICOLON, END, NOT_A_TOKEN }

    private enum Command {
        TROUGH("trough"), LOAD("load"), FAN("fan"), REVERSE("reverse"), HEAT("heat"), HUMIDITY("humidity"),
        MONSOON("monsoon"), TARGET("target"), TURN("turn"), DISCHARGE("discharge"), DISCARD("discard"),
        PROBE("probe"), CALIBRATE("calibrate"), HOURS("hours"), REPEAT("repeat");

        final String word;

        Command(String word) {
            this.word = word;
        }
    }

    /** Reads the input and executes it while it reads, since what a token may be depends on the loft so far. */
    private static final class Script {
        private static final Command[] COMMANDS = Command.values();
        private static final int GRAMMAR = 1, RANGE = 2, REFUSED = 3, TOO_DEEP = 4, TOO_MANY = 5;
        private static final int MAX_COMMANDS = 200;
        private static final int MAX_DEPTH = 2;
        private static final int MAX_TIMES = 20;
        private static final int MAX_DIGITS = 4;
        private static final int MAX_OPERANDS = 4;
        /** No script comes near it: 600 bytes hold too few repeats. */
        private static final int MAX_STEPS = 1000000;

        final Input text = new Input();
        final Loft draft = new Loft();
        int errorKind;
        int errorOffset;
        private int position;
        private Token token = Token.END;
        private int tokenStart;
        private int number;
        private final int[] operands = new int[MAX_OPERANDS];
        private int operandCount;
        private int executed;
        private int depth;
        private final int[] bodyStarts = new int[MAX_DEPTH];
        private final int[] timesLeft = new int[MAX_DEPTH];

        /** Answers whether there was no error; the draft is the new loft then. */
        boolean run() {
            draft.clear();
            errorKind = 0;
            position = 0;
            executed = 0;
            depth = 0;
            boolean going = readFirstWord() && readMark(Token.SEMICOLON);
            for (int step = 0; going && step < MAX_STEPS; step++) {
                readToken();
                if (token == Token.END && depth == 0) {
                    going = false;
                } else if (token == Token.CLOSE && depth > 0) {
                    going = closeRepeat();
                } else {
                    going = runCommand();
                }
            }
            return errorKind == 0;
        }

        private boolean runCommand() {
            Command command = commandHere();
            if (command == null) {
                return fail(GRAMMAR);
            }
            operandCount = 0;
            if (command == Command.REPEAT) {
                return depth < MAX_DEPTH ? openRepeat() : fail(TOO_DEEP);
            }
            if (executed >= MAX_COMMANDS) {
                return fail(TOO_MANY);
            }
            if (!readOperands(command) || !readMark(Token.SEMICOLON)) {
                return false;
            }
            if (isRefused(command)) {
                return fail(REFUSED);
            }
            execute(command);
            executed++;
            return true;
        }

        private Command commandHere() {
            for (int i = 0; i < COMMANDS.length; i++) {
                if (isWord(COMMANDS[i].word)) {
                    return COMMANDS[i];
                }
            }
            return null;
        }

        private boolean openRepeat() {
            if (!readNumber(1, MAX_TIMES) || !readMark(Token.OPEN)) {
                return false;
            }
            if (depth >= 0 && depth < MAX_DEPTH) {
                bodyStarts[depth] = position;
                timesLeft[depth] = operand(0);
                depth++;
            }
            return true;
        }

        private boolean closeRepeat() {
            int innermost = depth - 1;
            if (innermost < 0 || innermost >= MAX_DEPTH) {
                return fail(GRAMMAR);
            }
            timesLeft[innermost]--;
            if (timesLeft[innermost] > 0) {
                position = bodyStarts[innermost];
                return true;
            }
            depth = innermost;
            return readMark(Token.SEMICOLON);
        }

        private boolean readOperands(Command command) {
            switch (command) {
                case TROUGH:
                    return readNumber(MIN_CAPACITY, MAX_CAPACITY);
                case LOAD:
                    return readNumber(0, draft.troughCount - 1)
                            && readNumber(1, draft.troughAt(operand(0)).capacity)
                            && readNumber(MIN_LOADED_MOISTURE, MAX_MOISTURE);
                case FAN:
                    return readNumber(0, draft.troughCount - 1) && readNumber(0, MAX_SPEED);
                case REVERSE:
                case TURN:
                case DISCHARGE:
                case DISCARD:
                    return readNumber(0, draft.troughCount - 1);
                case HEAT:
                    return readNumber(0, MAX_HEAT);
                case HUMIDITY:
                    return readNumber(MIN_HUMIDITY, MAX_HUMIDITY);
                case MONSOON:
                    return readNumber(draft.air.presentDay(), LAST_MONSOON_DAY);
                case TARGET:
                    return readNumber(MIN_TARGET, MAX_TARGET) && readNumber(MIN_TOLERANCE, MAX_TOLERANCE);
                case PROBE:
                    return readNumber(0, draft.troughCount - 1) && readChoice("bottom", BOTTOM, "top", TOP)
                            && readChoice("over", 1, "under", -1) && readNumber(0, MAX_ERROR);
                case CALIBRATE:
                    return readNumber(0, draft.probeCount - 1);
                case HOURS:
                    return readNumber(1, MAX_PASSED_HOURS);
                default:
                    return fail(GRAMMAR);
            }
        }

        /** Whether the command's method would throw an IllegalStateException. */
        private boolean isRefused(Command command) {
            switch (command) {
                case TROUGH:
                    return !draft.hasRoomForTrough();
                case LOAD:
                    return draft.troughAt(operand(0)).hasLeaf();
                case MONSOON:
                    return !draft.air.hasRoomForMonsoon();
                case TURN:
                case DISCARD:
                    return !draft.troughAt(operand(0)).hasLeaf();
                case DISCHARGE:
                    return draft.refusalOf(draft.troughAt(operand(0))) != ALLOWED;
                case PROBE:
                    return !draft.hasRoomForProbe();
                case HOURS:
                    return !draft.air.hasHoursLeft(operand(0));
                default:
                    return false;
            }
        }

        private void execute(Command command) {
            Trough place = draft.troughAt(operand(0));
            switch (command) {
                case TROUGH:
                    draft.placeTrough(operand(0));
                    break;
                case LOAD:
                    draft.putLeaf(place, operand(1), operand(2));
                    break;
                case FAN:
                    place.speed = operand(1);
                    break;
                case REVERSE:
                    place.upwards = !place.upwards;
                    break;
                case HEAT:
                    draft.air.heatLevel = operand(0);
                    break;
                case HUMIDITY:
                    draft.air.usualHumidity = operand(0);
                    break;
                case MONSOON:
                    draft.air.addMonsoon(operand(0));
                    break;
                case TARGET:
                    draft.aimAt(operand(0), operand(1));
                    break;
                case TURN:
                    place.mixLayers();
                    break;
                case DISCHARGE:
                    draft.dischargeLeaf(place);
                    break;
                case DISCARD:
                    draft.discardLeaf(place);
                    break;
                case PROBE:
                    draft.placeProbe(operand(0), operand(1), operand(2) * operand(3));
                    break;
                case CALIBRATE:
                    draft.probeAt(operand(0)).error = 0;
                    break;
                case HOURS:
                    draft.letHoursPass(operand(0));
                    break;
                default:
                    break;
            }
        }

        private boolean readFirstWord() {
            readToken();
            return isWord("loft") || fail(GRAMMAR);
        }

        private boolean readMark(Token mark) {
            readToken();
            return token == mark || fail(GRAMMAR);
        }

        private boolean readNumber(int low, int high) {
            readToken();
            if (token != Token.NUMBER) {
                return fail(GRAMMAR);
            }
            if (number < low || number > high) {
                return fail(RANGE);
            }
            return keep(number);
        }

        private boolean readChoice(String one, int meaningOfOne, String other, int meaningOfOther) {
            readToken();
            if (isWord(one)) {
                return keep(meaningOfOne);
            }
            return isWord(other) ? keep(meaningOfOther) : fail(GRAMMAR);
        }

        private boolean keep(int operand) {
            if (operandCount >= 0 && operandCount < MAX_OPERANDS) {
                operands[operandCount] = operand;
                operandCount++;
            }
            return true;
        }

        private int operand(int index) {
            return index >= 0 && index < MAX_OPERANDS ? operands[index] : 0;
        }

        private boolean fail(int kind) {
            errorKind = kind;
            errorOffset = tokenStart;
            return false;
        }

        private void readToken() {
            skipBlanks();
            tokenStart = position;
            int first = text.byteAt(position);
            if (first == NONE) {
                token = Token.END;
            } else if (isDigit(first)) {
                readDigits();
            } else if (isLetter(first)) {
                readLetters();
            } else {
                token = markOf(first);
                position++;
            }
        }

        private void skipBlanks() {
            int here = text.byteAt(position);
            while (position < text.length && (here == ' ' || here == '\n')) {
                position++;
                here = text.byteAt(position);
            }
        }

        private void readDigits() {
            number = 0;
            int here = text.byteAt(position);
            while (position < text.length && isDigit(here)) {
                number = number * 10 + here - '0';
                position++;
                here = text.byteAt(position);
            }
            token = position - tokenStart <= MAX_DIGITS ? Token.NUMBER : Token.NOT_A_TOKEN;
        }

        private void readLetters() {
            while (position < text.length && isLetter(text.byteAt(position))) {
                position++;
            }
            token = Token.WORD;
        }

        private boolean isWord(String word) {
            if (token != Token.WORD || position - tokenStart != word.length()) {
                return false;
            }
            for (int i = 0; i < word.length(); i++) {
                if (text.byteAt(tokenStart + i) != word.charAt(i)) {
                    return false;
                }
            }
            return true;
        }

        private static Token markOf(int character) {
            switch (character) {
                case '(':
                    return Token.OPEN;
                case ')':
                    return Token.CLOSE;
                case ';':
                    return Token.SEMICOLON;
                default:
                    return Token.NOT_A_TOKEN;
            }
        }

        private static boolean isDigit(int character) {
            return character >= '0' && character <= '9';
        }

        private static boolean isLetter(int character) {
            return character >= 'a' && character <= 'z';
        }
    }

    private static final class Report {
        /** A trough takes 10 bytes at most, and a space before it. */
        private static final int MAX_BYTES = 11 * MAX_TROUGHS;

        final byte[] bytes = new byte[MAX_BYTES];
        int length;

        void writeAll(Loft loft) {
            length = 0;
            for (int i = 0; i < loft.troughCount; i++) {
                if (i > 0) {
                    put(' ');
                }
                writeTrough(loft.troughAt(i), loft.isReady(loft.troughAt(i)));
            }
        }

        private void writeTrough(Trough trough, boolean ready) {
            putNumber(trough.speed);
            put(trough.upwards ? 'u' : 'd');
            if (trough.hasLeaf()) {
                putNumber(trough.bottom);
                put('/');
                putNumber(trough.top);
            }
            if (ready) {
                put('!');
            }
        }

        private void putNumber(int value) {
            if (value >= 100) {
                put('0' + value / 100 % 10);
            }
            if (value >= 10) {
                put('0' + value / 10 % 10);
            }
            put('0' + value % 10);
        }

        private void put(int character) {
            if (length >= 0 && length < MAX_BYTES) {
                bytes[length] = (byte) character;
                length++;
            }
        }

        int byteAt(int index) {
            return index >= 0 && index < length && index < MAX_BYTES ? bytes[index] : NONE;
        }
    }
}
