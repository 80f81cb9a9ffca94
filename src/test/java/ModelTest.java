import java.lang.reflect.InvocationTargetException;
import java.lang.reflect.Method;
import java.lang.reflect.Modifier;
import java.util.Arrays;
import java.util.Comparator;
import java.util.HashMap;
import java.util.Map;
import java.util.Random;

/** All promises at once: random runs of 512 calls, each answered by the class and by LoftModel alike. */
public final class ModelTest {
    private static final int RUNS = 300;
    private static final int CALLS = 512;
    private static final int[] ODD_NUMBERS = {
        Integer.MIN_VALUE, Integer.MAX_VALUE, -51, -50, -1, 0, 1, 2, 3, 5, 6, 7, 8, 9, 10, 20, 50, 51, 83, 84, 95, 96,
        100, 101, 200, 201, 499, 500, 501, 580, 600, 601, 700, 701, 900, 901, 1999, 2000, 2001,
    };
    private static final String[] CHANGES = {
        "addTrough", "load", "load", "load", "setFan", "setFan", "reverse", "setHeat", "setHumidity",
        "announceMonsoon", "setTarget", "turnLeaf", "discharge", "discard", "addProbe", "addProbe", "moveProbe",
        "calibrate", "passHours", "passHours", "passHours", "undo", "saveSnapshot", "restoreSnapshot",
    };

    private static final Map<String, Method> METHODS = new HashMap<>();

    private final Random random;
    private final WitheringLoft loft = new WitheringLoft();
    private final LoftModel model = new LoftModel();
    private final Map<String, Integer> answered;
    private final boolean late;
    private int calls;

    /** A late run has long waits, so that it comes near hour 2000. */
    private ModelTest(Random random, boolean late, Map<String, Integer> answered) {
        this.random = random;
        this.late = late;
        this.answered = answered;
    }

    public static void main(String[] args) {
        Method[] face = Arrays.stream(WitheringLoft.class.getDeclaredMethods())
                .filter(method -> Modifier.isPublic(method.getModifiers()))
                .sorted(Comparator.comparing(Method::getName)).toArray(Method[]::new);
        Random random = new Random(65);
        Map<String, Integer> answered = new HashMap<>();
        for (int run = 0; run < RUNS; run++) {
            new ModelTest(random, run % 6 == 0, answered).run(face);
        }
        for (Method method : face) {
            int times = answered.getOrDefault(method.getName(), 0);
            Check.same("whether " + method.getName() + " answered at least 100 times", times >= 100, true);
            for (Class<?> kind : method.getExceptionTypes()) {
                String name = method.getName() + " " + kind.getSimpleName();
                Check.same("whether " + name + " came", answered.containsKey(name), true);
            }
        }
        Check.end();
    }

    private void run(Method[] face) {
        while (calls < CALLS) {
            int choice = random.nextInt(200);
            if (choice == 0) {
                type(RandomScriptsTest.randomScript(random));
            } else if (choice == 1) {
                type(RandomScriptsTest.spoiled(random, RandomScriptsTest.randomScript(random)));
            } else if (choice < 10) {
                dischargeWhenReady();
            } else if (choice < 14) {
                call("writeTroughs");
            } else if (choice < 70) {
                callAtRandom(CHANGES[random.nextInt(CHANGES.length)]);
            } else {
                callAtRandom(face[random.nextInt(face.length)].getName());
            }
        }
    }

    private void type(String script) {
        call("truncateInput", 0);
        for (int start = 0; start < script.length(); start += 20) {
            call("append", Check.word(script, start), Check.word(script, start + 4), Check.word(script, start + 8),
                    Check.word(script, start + 12), Check.word(script, start + 16));
        }
        call("truncateInput", script.length());
        call("runScript");
        call("scriptErrorKind");
        call("scriptErrorOffset");
    }

    private void dischargeWhenReady() {
        int trough = random.nextInt(model.troughCount() + 1);
        if (trough < model.troughCount() && model.hoursToReady(trough) > 0) {
            call("passHours", model.hoursToReady(trough));
        }
        call("readyTroughs");
        call("discharge", trough);
    }

    private void callAtRandom(String name) {
        int count = method(WitheringLoft.class, name).getParameterCount();
        int[] arguments = new int[count];
        for (int i = 0; i < count; i++) {
            arguments[i] = random.nextInt(25) == 0 ? ODD_NUMBERS[random.nextInt(ODD_NUMBERS.length)]
                    : argument(name + i);
        }
        call(name, arguments);
    }

    private int argument(String place) {
        switch (place) {
            case "truncateInput0":
            case "reportByte0":
                return random.nextInt(60);
            case "load1":
                return 1 + random.nextInt(random.nextBoolean() ? 50 : 250);
            case "load2":
                return between(600, 900);
            case "setFan1":
            case "setHeat0":
                return random.nextInt(6);
            case "setTarget0":
                return between(500, 700);
            case "setTarget1":
                return between(5, 50);
            case "setHumidity0":
                return random.nextBoolean() ? between(20, 95) : between(85, 95);
            case "addTrough0":
                return between(10, 500);
            case "addProbe2":
                return between(-50, 50);
            case "announceMonsoon0":
                return model.day() + random.nextInt(6);
            case "humidityAt0":
                return random.nextInt(2001);
            case "passHours0":
                return 1 + random.nextInt(late || random.nextInt(8) == 0 ? 200 : 9);
            case "moistureAfter2":
            case "slowestSpeed1":
            case "bestReversal1":
                return random.nextInt(random.nextInt(3) == 0 ? 201 : 12);
            case "moisture1":
            case "moistureAfter1":
            case "addProbe1":
            case "moveProbe2":
                return random.nextInt(2);
            case "reading0":
            case "probeTrough0":
            case "probeLayer0":
            case "calibrate0":
            case "moveProbe0":
                return random.nextInt(model.probeCount() + 1);
            default:
                return random.nextInt(16) == 0 ? model.troughCount() : random.nextInt(Math.max(1, model.troughCount()));
        }
    }

    private int between(int low, int high) {
        return low + random.nextInt(high - low + 1);
    }

    private void call(String name, int... numbers) {
        if (calls == CALLS) {
            return;
        }
        calls++;
        Object[] arguments = Arrays.stream(numbers).boxed().toArray();
        Object got = answer(loft, name, arguments);
        Object due = answer(model, name, arguments);
        Check.same(name + Arrays.toString(arguments) + ", call " + calls, got.toString(), due.toString());
        answered.merge(due instanceof Class<?> kind ? name + " " + kind.getSimpleName() : name, 1, Integer::sum);
    }

    /** What the call answers, or the class of what it throws. */
    private static Object answer(Object called, String name, Object[] arguments) {
        try {
            return method(called.getClass(), name).invoke(called, arguments);
        } catch (InvocationTargetException thrown) {
            return thrown.getCause().getClass();
        } catch (IllegalAccessException closed) {
            throw new IllegalStateException(closed);
        }
    }

    private static Method method(Class<?> kind, String name) {
        return METHODS.computeIfAbsent(kind.getName() + name, key -> Arrays.stream(kind.getDeclaredMethods())
                .filter(method -> method.getName().equals(name)).findFirst().orElseThrow());
    }
}
