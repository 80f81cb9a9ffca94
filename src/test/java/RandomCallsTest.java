import java.lang.reflect.InvocationTargetException;
import java.lang.reflect.Method;
import java.util.Arrays;
import java.util.Comparator;
import java.util.Random;

/**
 * Random calls of the whole face, with good and bad arguments: each throws nothing but what its declaration
 * names, one that throws changes nothing, violations() stays 0, and undo() takes each change back.
 */
public final class RandomCallsTest {
    private static final int[] ODD_NUMBERS = {
        Integer.MIN_VALUE, Integer.MAX_VALUE, -51, -1, 83, 84, 200, 201, 500, 501, 600, 900, 2000, 2001,
    };
    private static final String CHANGES = " runScript addTrough load setFan reverse setHeat setHumidity "
            + "announceMonsoon setTarget turnLeaf discharge discard addProbe moveProbe calibrate passHours ";

    public static void main(String[] args) throws IllegalAccessException {
        Method[] methods = WitheringLoft.class.getDeclaredMethods();
        methods = Arrays.stream(methods).filter(method -> java.lang.reflect.Modifier.isPublic(method.getModifiers()))
                .sorted(Comparator.comparing(Method::getName)).toArray(Method[]::new);
        Random random = new Random(1);
        for (int run = 0; run < 300; run++) {
            WitheringLoft loft = new WitheringLoft();
            for (int call = 0; call < 512; call++) {
                callOnce(random, loft, methods[random.nextInt(methods.length)]);
            }
        }
        Check.end();
    }

    private static void callOnce(Random random, WitheringLoft loft, Method method) throws IllegalAccessException {
        Object[] arguments = new Object[method.getParameterCount()];
        for (int i = 0; i < arguments.length; i++) {
            arguments[i] = argument(random, method.getName(), i);
        }
        String name = method.getName();
        String call = name + Arrays.toString(arguments);
        boolean changes = CHANGES.contains(" " + name + " ");
        String before = Check.view(loft);
        int count = loft.undoCount();
        boolean done = true;
        try {
            Object answer = method.invoke(loft, arguments);
            done = !name.equals("runScript") || !answer.equals(-1);
        } catch (InvocationTargetException thrown) {
            done = false;
            Class<?> kind = thrown.getCause().getClass();
            boolean named = Arrays.asList(method.getExceptionTypes()).contains(kind);
            Check.same("whether " + call + " may throw " + kind.getSimpleName(), named, true);
        }
        Check.same("violations() after " + call, loft.violations(), 0);
        if (changes && done) {
            Check.same("undoCount() after " + call, loft.undoCount(), Math.min(count + 1, 8));
            if (random.nextInt(3) == 0) {
                loft.undo();
                Check.same("the loft before " + call, Check.view(loft), before);
            }
        } else if (!name.equals("undo") && !name.equals("restoreSnapshot")) {
            Check.same("the loft after " + call, Check.view(loft), before);
            Check.same("undoCount() after " + call, loft.undoCount(), count);
        }
    }

    private static int argument(Random random, String name, int index) {
        if (random.nextInt(12) == 0) {
            return ODD_NUMBERS[random.nextInt(ODD_NUMBERS.length)];
        }
        switch (name + index) {
            case "load1":
                return random.nextInt(60);
            case "load2":
                return 600 + random.nextInt(300);
            case "setTarget0":
                return 500 + random.nextInt(200);
            case "setTarget1":
                return 5 + random.nextInt(50);
            case "setHumidity0":
                return 20 + random.nextInt(76);
            case "addTrough0":
                return 10 + random.nextInt(490);
            case "addProbe2":
                return random.nextInt(100) - 50;
            case "announceMonsoon0":
                return random.nextInt(84);
            default:
                return random.nextInt(5);
        }
    }
}
