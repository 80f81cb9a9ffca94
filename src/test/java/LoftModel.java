import java.util.ArrayDeque;
import java.util.ArrayList;
import java.util.Deque;
import java.util.List;
import java.util.NoSuchElementException;
import java.util.function.IntSupplier;
import java.util.regex.Matcher;
import java.util.regex.Pattern;

/**
 * The document written down a second time, slowly and by other means than the class: every state is a copy of
 * its own, predictions let copies live on, weights and lost water follow from what was loaded.
 */
final class LoftModel {
    private static final String FIRST_SCRIPT = "loft; trough 100; trough 200; trough 50; load 0 50 760; "
            + "load 1 200 780; fan 0 3; fan 1 4; monsoon 1; probe 0 top over 10; probe 1 bottom under 5; "
            + "hours 2; reverse 0; hours 1;";
    private static final Pattern TOKEN = Pattern.compile("[a-z]+|[0-9]+|[^ \n]", Pattern.DOTALL);

    /** Leaf as it was loaded and as it is; moistures[0] is the bottom layer. */
    private record Leaf(int kilograms, int loadedMoisture, List<Integer> moistures, int warmth, int damage) {
        Leaf(int kilograms, int moisture) {
            this(kilograms, moisture, List.of(moisture, moisture), 0, 0);
        }

        int bottom() {
            return moistures.get(0);
        }

        int top() {
            return moistures.get(1);
        }

        int lostThousandths() {
            return 2 * loadedMoisture - bottom() - top();
        }

        int spread() {
            return Math.abs(bottom() - top());
        }

        int marks() {
            return Math.max(0, 100 - spread() - 2 * damage);
        }
    }

    /** A trough as it is at one moment; leaf is null if it is empty. */
    private record Trough(int capacity, int speed, boolean upwards, Leaf leaf) {
        Trough withLeaf(Leaf other) {
            return new Trough(capacity, speed, upwards, other);
        }

        Trough withSpeed(int other) {
            return new Trough(capacity, other, upwards, leaf);
        }

        Trough reversed() {
            return new Trough(capacity, speed, !upwards, leaf);
        }

        int fill() {
            return leaf == null ? 0 : leaf.kilograms * 100 / capacity;
        }

        int loss(int dryness) {
            return leaf == null || speed == 0 ? 0 : speed * dryness * 60 / (100 + fill());
        }

        Trough anHourLater(int dryness) {
            if (leaf == null) {
                return this;
            }
            int loss = loss(dryness);
            int bottomLoss = upwards ? loss : loss / 2;
            int topLoss = upwards ? loss / 2 : loss;
            int warmth = speed > 0 ? Math.max(0, leaf.warmth - speed) : Math.min(20, leaf.warmth + 1);
            List<Integer> left = List.of(Math.max(300, leaf.bottom() - bottomLoss),
                    Math.max(300, leaf.top() - topLoss));
            int damage = leaf.damage + (warmth >= 10 ? 1 : 0);
            return withLeaf(new Leaf(leaf.kilograms, leaf.loadedMoisture, left, warmth, damage));
        }
    }

    private record Probe(int trough, int layer, int error) {
    }

    /** Everything that undo restores. */
    private static final class State {
        int hour;
        int humidity = 60;
        int heat;
        int target = 580;
        int tolerance = 20;
        List<Integer> monsoons = new ArrayList<>();
        List<Trough> troughs = new ArrayList<>();
        List<Probe> probes = new ArrayList<>();
        List<Leaf> discharged = new ArrayList<>();
        List<Leaf> discarded = new ArrayList<>();

        State copy() {
            State copy = new State();
            copy.hour = hour;
            copy.humidity = humidity;
            copy.heat = heat;
            copy.target = target;
            copy.tolerance = tolerance;
            copy.monsoons.addAll(monsoons);
            copy.troughs.addAll(troughs);
            copy.probes.addAll(probes);
            copy.discharged.addAll(discharged);
            copy.discarded.addAll(discarded);
            return copy;
        }
    }

    private static final class ScriptError extends Exception {
        private static final long serialVersionUID = 1L;
        final int kind;
        final int offset;

        ScriptError(int kind, int offset) {
            this.kind = kind;
            this.offset = offset;
        }
    }

    private State now = new State();
    private State saved;
    private final Deque<State> past = new ArrayDeque<>();
    private StringBuilder input = new StringBuilder();
    private String report = "";
    private int errorKind;
    private int errorOffset = -1;

    LoftModel() {
        input.append(FIRST_SCRIPT);
        runScript();
        past.clear();
    }

    // ---- input

    int append(int a, int b, int c, int d, int e) {
        if (input.length() + 20 > 600) {
            return -1;
        }
        for (int word : new int[] {a, b, c, d, e}) {
            input.append((char) (word >>> 24)).append((char) (word >>> 16 & 255));
            input.append((char) (word >>> 8 & 255)).append((char) (word & 255));
        }
        return input.length();
    }

    int truncateInput(int length) {
        within(length, 0, input.length());
        input.setLength(length);
        return length;
    }

    // ---- changes

    int runScript() {
        String text = input.toString();
        input = new StringBuilder();
        State before = now;
        List<State> pastBefore = List.copyOf(past);
        now = new State();
        errorKind = 0;
        errorOffset = -1;
        try {
            new Reader(text).readScript();
        } catch (ScriptError error) {
            now = before;
            errorKind = error.kind;
            errorOffset = error.offset;
        }
        past.clear();
        past.addAll(pastBefore);
        if (errorKind != 0) {
            return -1;
        }
        remember(before);
        return now.troughs.size();
    }

    int addTrough(int capacity) {
        within(capacity, 10, 500);
        possible(now.troughs.size() < 8);
        return change(() -> {
            now.troughs.add(new Trough(capacity, 0, true, null));
            return now.troughs.size() - 1;
        });
    }

    int load(int trough, int kilograms, int moisture) {
        Trough place = at(trough);
        within(kilograms, 1, place.capacity);
        within(moisture, 600, 900);
        possible(place.leaf == null);
        return change(() -> put(trough, place.withLeaf(new Leaf(kilograms, moisture))).fill());
    }

    int setFan(int trough, int speed) {
        Trough place = at(trough);
        within(speed, 0, 5);
        return change(() -> {
            put(trough, place.withSpeed(speed));
            return place.speed;
        });
    }

    boolean reverse(int trough) {
        Trough place = at(trough);
        change(() -> put(trough, place.reversed()).speed);
        return !place.upwards;
    }

    int setHeat(int level) {
        within(level, 0, 5);
        int previous = now.heat;
        change(() -> now.heat = level);
        return previous;
    }

    int setHumidity(int percent) {
        within(percent, 20, 95);
        int previous = now.humidity;
        change(() -> now.humidity = percent);
        return previous;
    }

    int announceMonsoon(int day) {
        within(day, now.hour / 24, 83);
        possible(now.monsoons.size() < 3);
        return change(() -> {
            now.monsoons.add(day);
            return now.monsoons.size();
        });
    }

    int setTarget(int target, int tolerance) {
        within(target, 500, 700);
        within(tolerance, 5, 50);
        return change(() -> {
            now.target = target;
            now.tolerance = tolerance;
            return Integer.bitCount(readyTroughs());
        });
    }

    int turnLeaf(int trough) {
        Trough place = at(trough);
        possible(place.leaf != null);
        Leaf leaf = place.leaf;
        int sum = leaf.bottom() + leaf.top();
        List<Integer> halves = List.of(sum / 2, sum - sum / 2);
        return change(() -> put(trough, place.withLeaf(new Leaf(leaf.kilograms, leaf.loadedMoisture, halves,
                leaf.warmth, leaf.damage + 2))).leaf.top());
    }

    int discharge(int trough) {
        Trough place = at(trough);
        possible(whyNoDischarge(trough) == 0);
        return change(() -> {
            now.discharged.add(place.leaf);
            put(trough, place.withLeaf(null));
            return worth(place.leaf);
        });
    }

    int discard(int trough) {
        Trough place = at(trough);
        possible(place.leaf != null);
        return change(() -> {
            now.discarded.add(place.leaf);
            put(trough, place.withLeaf(null));
            return place.leaf.kilograms;
        });
    }

    int addProbe(int trough, int layer, int error) {
        at(trough);
        within(layer, 0, 1);
        within(error, -50, 50);
        possible(now.probes.size() < 6);
        return change(() -> {
            now.probes.add(new Probe(trough, layer, error));
            return now.probes.size() - 1;
        });
    }

    int moveProbe(int probe, int trough, int layer) {
        Probe moved = probeAt(probe);
        at(trough);
        within(layer, 0, 1);
        return change(() -> now.probes.set(probe, new Probe(trough, layer, moved.error)).trough);
    }

    int calibrate(int probe) {
        Probe wrong = probeAt(probe);
        return change(() -> now.probes.set(probe, new Probe(wrong.trough, wrong.layer, 0)).error);
    }

    int passHours(int hours) {
        within(hours, 1, 200);
        possible(now.hour + hours <= 2000);
        return change(() -> {
            for (int i = 0; i < hours; i++) {
                int dryness = dryness();
                now.troughs.replaceAll(trough -> trough.anHourLater(dryness));
                now.hour++;
                if (now.hour % 24 == 0) {
                    now.probes.replaceAll(p -> new Probe(p.trough, p.layer, Math.min(50, p.error + 1)));
                }
            }
            return now.hour;
        });
    }

    // ---- undo and the snapshot

    int undo() {
        if (past.isEmpty()) {
            return -1;
        }
        now = past.pop();
        return past.size();
    }

    int undoCount() {
        return past.size();
    }

    int saveSnapshot() {
        saved = now.copy();
        return now.hour;
    }

    int restoreSnapshot() {
        if (saved == null) {
            throw new NoSuchElementException();
        }
        now = saved.copy();
        past.clear();
        return now.hour;
    }

    // ---- the script error

    int scriptErrorKind() {
        return errorKind;
    }

    int scriptErrorOffset() {
        return errorOffset;
    }

    // ---- time and air

    int hour() {
        return now.hour;
    }

    int day() {
        return now.hour / 24;
    }

    int humidityAt(int hour) {
        within(hour, 0, 2000);
        return humidityOf(hour);
    }

    int dryness() {
        return drynessOf(now.hour);
    }

    int hoursToMonsoon() {
        return now.monsoons.stream().mapToInt(day -> day * 24 - now.hour).filter(hours -> hours > 0).min().orElse(-1);
    }

    boolean isMonsoon() {
        return monsoonAt(now.hour);
    }

    // ---- troughs

    int troughCount() {
        return now.troughs.size();
    }

    int probeCount() {
        return now.probes.size();
    }

    int capacity(int trough) {
        return at(trough).capacity;
    }

    int kilograms(int trough) {
        Leaf leaf = at(trough).leaf;
        return leaf == null ? 0 : leaf.kilograms;
    }

    int fill(int trough) {
        return at(trough).fill();
    }

    int speed(int trough) {
        return at(trough).speed;
    }

    boolean isUpwards(int trough) {
        return at(trough).upwards;
    }

    int moisture(int trough, int layer) {
        Leaf leaf = at(trough).leaf;
        within(layer, 0, 1);
        return leaf == null ? -1 : leaf.moistures.get(layer);
    }

    int spread(int trough) {
        Leaf leaf = at(trough).leaf;
        return leaf == null ? -1 : leaf.spread();
    }

    int warmth(int trough) {
        Leaf leaf = at(trough).leaf;
        return leaf == null ? -1 : leaf.warmth;
    }

    int damage(int trough) {
        Leaf leaf = at(trough).leaf;
        return leaf == null ? -1 : leaf.damage;
    }

    int marks(int trough) {
        Leaf leaf = at(trough).leaf;
        return leaf == null ? -1 : leaf.marks();
    }

    int loss(int trough) {
        return at(trough).loss(dryness());
    }

    int whyNoDischarge(int trough) {
        Leaf leaf = at(trough).leaf;
        if (leaf == null) {
            return 1;
        }
        boolean dry = leaf.moistures.stream().anyMatch(moisture -> moisture < now.target - now.tolerance);
        return dry ? 2 : ready(leaf) ? 0 : 3;
    }

    int readyTroughs() {
        int set = 0;
        for (int i = 0; i < now.troughs.size(); i++) {
            set += ready(now.troughs.get(i).leaf) ? (int) Math.pow(2, i) : 0;
        }
        return set;
    }

    int weight(int trough) {
        Leaf leaf = at(trough).leaf;
        return leaf == null ? 0 : leaf.kilograms * (2000 - leaf.lostThousandths());
    }

    // ---- probes

    int reading(int probe) {
        Probe read = probeAt(probe);
        Leaf leaf = at(read.trough).leaf;
        return leaf == null ? -1 : leaf.moistures.get(read.layer) + read.error;
    }

    int probeTrough(int probe) {
        return probeAt(probe).trough;
    }

    int probeLayer(int probe) {
        return probeAt(probe).layer;
    }

    int meanReading(int trough) {
        Leaf leaf = at(trough).leaf;
        return leaf == null ? -1 : (int) Math.floor(now.probes.stream().filter(probe -> probe.trough == trough)
                .mapToInt(probe -> leaf.moistures.get(probe.layer) + probe.error).average().orElse(-1));
    }

    // ---- predictions

    int moistureAfter(int trough, int layer, int hours) {
        Trough place = at(trough);
        within(layer, 0, 1);
        within(hours, 0, 200);
        return place.leaf == null ? -1 : later(place, 0, hours).leaf.moistures.get(layer);
    }

    int hoursToReady(int trough) {
        Trough place = at(trough);
        for (int hours = 0; hours <= 200; hours++) {
            if (ready(place.leaf)) {
                return hours;
            }
            place = later(place, hours, hours + 1);
        }
        return -1;
    }

    int hoursToDamage(int trough) {
        Trough place = at(trough);
        for (int hours = 1; place.leaf != null && hours <= 20; hours++) {
            if (later(place, 0, hours).leaf.damage > place.leaf.damage) {
                return hours;
            }
        }
        return -1;
    }

    int bestReversal(int trough, int hours) {
        Trough place = at(trough);
        within(hours, 1, 100);
        if (place.leaf == null) {
            return -1;
        }
        int best = hours;
        int smallest = later(place, 0, hours).leaf.spread();
        for (int before = hours - 1; before >= 0; before--) {
            int spread = later(later(place, 0, before).reversed(), before, hours).leaf.spread();
            if (spread <= smallest) {
                smallest = spread;
                best = before;
            }
        }
        return best;
    }

    int slowestSpeed(int trough, int hours) {
        Trough place = at(trough);
        within(hours, 0, 200);
        int slowest = -1;
        for (int speed = 5; speed >= 0; speed--) {
            slowest = ready(later(place.withSpeed(speed), 0, hours).leaf) ? speed : slowest;
        }
        return slowest;
    }

    // ---- accounts and checks

    int dischargedKilograms() {
        return now.discharged.stream().mapToInt(Leaf::kilograms).sum();
    }

    int discardedKilograms() {
        return now.discarded.stream().mapToInt(Leaf::kilograms).sum();
    }

    int totalWorth() {
        return now.discharged.stream().mapToInt(LoftModel::worth).sum();
    }

    int lostWater() {
        List<Leaf> all = new ArrayList<>(now.discharged);
        all.addAll(now.discarded);
        all.addAll(leaves());
        return all.stream().mapToInt(leaf -> leaf.kilograms * leaf.lostThousandths()).sum();
    }

    double meanMoisture() {
        int sum = leaves().stream().mapToInt(leaf -> leaf.bottom() + leaf.top()).sum();
        return leaves().isEmpty() ? 0.0 : (double) sum / (double) (2 * leaves().size());
    }

    float readyShare() {
        return leaves().isEmpty() ? 0.0f : (float) Integer.bitCount(readyTroughs()) / (float) leaves().size();
    }

    int violations() {
        return 0;
    }

    // ---- the report

    int writeTroughs() {
        List<String> parts = new ArrayList<>();
        for (Trough trough : now.troughs) {
            Leaf leaf = trough.leaf;
            parts.add(trough.speed + (trough.upwards ? "u" : "d")
                    + (leaf == null ? "" : leaf.bottom() + "/" + leaf.top() + (ready(leaf) ? "!" : "")));
        }
        report = String.join(" ", parts);
        return report.length();
    }

    int reportByte(int index) {
        return index < 0 || index >= report.length() ? -1 : report.charAt(index);
    }

    // ---- what the methods share

    private static void within(int value, int low, int high) {
        if (value < low || value > high) {
            throw new IllegalArgumentException();
        }
    }

    private static void possible(boolean condition) {
        if (!condition) {
            throw new IllegalStateException();
        }
    }

    private Trough at(int number) {
        if (number < 0 || number >= now.troughs.size()) {
            throw new IndexOutOfBoundsException();
        }
        return now.troughs.get(number);
    }

    private Probe probeAt(int number) {
        if (number < 0 || number >= now.probes.size()) {
            throw new IndexOutOfBoundsException();
        }
        return now.probes.get(number);
    }

    private Trough put(int number, Trough trough) {
        now.troughs.set(number, trough);
        return trough;
    }

    private int change(IntSupplier action) {
        State before = now.copy();
        int answer = action.getAsInt();
        remember(before);
        return answer;
    }

    private void remember(State before) {
        past.push(before);
        if (past.size() > 8) {
            past.removeLast();
        }
    }

    private boolean monsoonAt(int hour) {
        return now.monsoons.stream().anyMatch(day -> hour / 24 >= day && hour / 24 < day + 7);
    }

    private int humidityOf(int hour) {
        return monsoonAt(hour) ? 95 : now.humidity;
    }

    private int drynessOf(int hour) {
        return 100 - humidityOf(hour) + 5 * now.heat;
    }

    /** The trough after the hours from the one number (counted from now) to the other have passed for it. */
    private Trough later(Trough trough, int from, int to) {
        Trough moving = trough;
        for (int hours = from; hours < to; hours++) {
            moving = moving.anHourLater(drynessOf(now.hour + hours));
        }
        return moving;
    }

    private boolean ready(Leaf leaf) {
        return leaf != null && leaf.moistures.stream().allMatch(m -> Math.abs(m - now.target) <= now.tolerance);
    }

    private static int worth(Leaf leaf) {
        return leaf.kilograms * leaf.marks() / 100;
    }

    private List<Leaf> leaves() {
        return now.troughs.stream().map(Trough::leaf).filter(leaf -> leaf != null).toList();
    }

    /** Reads tokens from a list that is made beforehand, and repeats by recursion. */
    private final class Reader {
        private final List<String> tokens = new ArrayList<>();
        private final List<Integer> offsets = new ArrayList<>();
        private int next;
        private int executed;

        Reader(String text) {
            Matcher matcher = TOKEN.matcher(text);
            while (matcher.find()) {
                tokens.add(matcher.group());
                offsets.add(matcher.start());
            }
            tokens.add("");
            offsets.add(text.length());
        }

        void readScript() throws ScriptError {
            mark("loft");
            mark(";");
            while (!tokens.get(next).isEmpty()) {
                statement(0);
            }
        }

        /** The error of the token that was read last. */
        private ScriptError wrong(int kind) {
            return new ScriptError(kind, offsets.get(next - 1));
        }

        private String read() {
            next++;
            return tokens.get(next - 1);
        }

        private String mark(String... allowed) throws ScriptError {
            String token = read();
            if (!List.of(allowed).contains(token)) {
                throw wrong(1);
            }
            return token;
        }

        private int number(int low, int high) throws ScriptError {
            if (!read().matches("[0-9]{1,4}")) {
                throw wrong(1);
            }
            int value = Integer.parseInt(tokens.get(next - 1));
            if (value < low || value > high) {
                throw wrong(2);
            }
            return value;
        }

        private int trough() throws ScriptError {
            return number(0, now.troughs.size() - 1);
        }

        private void statement(int depth) throws ScriptError {
            String word = mark("trough", "load", "fan", "reverse", "heat", "humidity", "monsoon", "target", "turn",
                    "discharge", "discard", "probe", "calibrate", "hours", "repeat");
            if (word.equals("repeat")) {
                repeat(depth);
                return;
            }
            executed++;
            if (executed == 201) {
                throw wrong(5);
            }
            IntSupplier command = command(word);
            mark(";");
            try {
                command.getAsInt();
            } catch (IllegalStateException refused) {
                throw wrong(3);
            }
        }

        private void repeat(int depth) throws ScriptError {
            if (depth == 2) {
                throw wrong(4);
            }
            int times = number(1, 20);
            mark("(");
            int body = next;
            for (int i = 0; i < times; i++) {
                next = body;
                while (!tokens.get(next).equals(")")) {
                    statement(depth + 1);
                }
                next++;
            }
            mark(";");
        }

        private IntSupplier command(String word) throws ScriptError {
            if (word.equals("trough")) {
                int capacity = number(10, 500);
                return () -> addTrough(capacity);
            }
            if (word.equals("heat")) {
                int level = number(0, 5);
                return () -> setHeat(level);
            }
            if (word.equals("humidity")) {
                int percent = number(20, 95);
                return () -> setHumidity(percent);
            }
            if (word.equals("monsoon")) {
                int day = number(day(), 83);
                return () -> announceMonsoon(day);
            }
            if (word.equals("target")) {
                int target = number(500, 700);
                int tolerance = number(5, 50);
                return () -> setTarget(target, tolerance);
            }
            if (word.equals("calibrate")) {
                int probe = number(0, now.probes.size() - 1);
                return () -> calibrate(probe);
            }
            if (word.equals("hours")) {
                int hours = number(1, 200);
                return () -> passHours(hours);
            }
            return commandOfATrough(word, trough());
        }

        private IntSupplier commandOfATrough(String word, int trough) throws ScriptError {
            switch (word) {
                case "load":
                    int kilograms = number(1, at(trough).capacity);
                    int moisture = number(600, 900);
                    return () -> load(trough, kilograms, moisture);
                case "fan":
                    int speed = number(0, 5);
                    return () -> setFan(trough, speed);
                case "probe":
                    int layer = mark("top", "bottom").equals("top") ? 1 : 0;
                    int sign = mark("over", "under").equals("over") ? 1 : -1;
                    int error = sign * number(0, 50);
                    return () -> addProbe(trough, layer, error);
                case "turn":
                    return () -> turnLeaf(trough);
                case "discharge":
                    return () -> discharge(trough);
                case "discard":
                    return () -> discard(trough);
                default:
                    return () -> reverse(trough) ? 1 : 0;
            }
        }
    }
}
