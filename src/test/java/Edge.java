/**
 * What the tests of the boundary cases share. Each case has a loft of its own, since the document promises
 * nothing behind the 512th call of a loft.
 */
final class Edge {
    /** A new loft: trough 0 has leaf of 640/664, trough 1 of 636/708, trough 2 is empty; the hour is 3. */
    static final String FIRST = "loft;trough 100;trough 200;trough 50;load 0 50 760;load 1 200 780;fan 0 3;"
            + "fan 1 4;monsoon 1;probe 0 top over 10;probe 1 bottom under 5;hours 2;reverse 0;hours 1;";

    private static final int MONSOON_HOURS = 168;

    interface Call {
        long on(WitheringLoft loft);
    }

    interface NumberCall {
        long on(WitheringLoft loft, int number);
    }

    private Edge() {
    }

    /** All numbers from low to high are taken, those next to them and the extreme ones are not. */
    static void takes(String script, String name, int low, int high, NumberCall call) {
        accepts(script, name + " with " + low, loft -> call.on(loft, low));
        accepts(script, name + " with " + high, loft -> call.on(loft, high));
        for (int wrong : new int[] {low - 1, high + 1, Integer.MIN_VALUE, Integer.MAX_VALUE}) {
            refuses(script, name + " with " + wrong, IllegalArgumentException.class, loft -> call.on(loft, wrong));
        }
    }

    /** The numbers of so many troughs or probes exist, those next to them and the extreme ones do not. */
    static void exist(String script, String name, int count, NumberCall call) {
        if (count > 0) {
            accepts(script, name + " of number 0", loft -> call.on(loft, 0));
            accepts(script, name + " of number " + (count - 1), loft -> call.on(loft, count - 1));
        }
        for (int wrong : new int[] {-1, count, Integer.MIN_VALUE, Integer.MAX_VALUE}) {
            refuses(script, name + " of number " + wrong, IndexOutOfBoundsException.class,
                    loft -> call.on(loft, wrong));
        }
    }

    static void accepts(String script, String name, Call call) {
        WitheringLoft loft = Check.after(script);
        try {
            call.on(loft);
        } catch (RuntimeException thrown) {
            Check.same(name + " after " + script, thrown.getClass().getSimpleName(), "no exception");
        }
    }

    /** The call throws an exception of exactly this class, and changes nothing. */
    static void refuses(String script, String name, Class<? extends RuntimeException> kind, Call call) {
        WitheringLoft loft = prepared(script);
        String before = everything(loft);
        Check.throwsExactly(name + " after " + script, kind, () -> call.on(loft));
        Check.same("all after " + name + " after " + script, everything(loft), before);
        Check.same("the input after " + name, loft.append(0, 0, 0, 0, 0), 32);
        loft.restoreSnapshot();
        Check.same("the snapshot after " + name, state(loft), before.substring(0, before.indexOf("\nrest")));
    }

    static void refusesIndex(String script, String name, Call call) {
        refuses(script, name, IndexOutOfBoundsException.class, call);
    }

    static void refusesArgument(String script, String name, Call call) {
        refuses(script, name, IllegalArgumentException.class, call);
    }

    static void refusesState(String script, String name, Call call) {
        refuses(script, name, IllegalStateException.class, call);
    }

    /** A loft after the script, with an input, a script error, a report, a snapshot and something to undo. */
    private static WitheringLoft prepared(String script) {
        WitheringLoft loft = Check.after(script);
        Check.run(loft, "loft;heat 9;");
        Check.type(loft, "loft;heat 2;");
        loft.writeTroughs();
        loft.saveSnapshot();
        return loft;
    }

    private static String everything(WitheringLoft loft) {
        StringBuilder text = new StringBuilder(state(loft));
        text.append("\nrest ").append(loft.undoCount());
        text.append(' ').append(loft.scriptErrorKind()).append(' ').append(loft.scriptErrorOffset());
        for (int i = 0; i < 12; i++) {
            text.append(' ').append(loft.reportByte(i));
        }
        return text.toString();
    }

    /** What undo restores, in at most some 170 calls. */
    static String state(WitheringLoft loft) {
        StringBuilder text = new StringBuilder();
        text.append(loft.hour()).append(' ').append(loft.dryness()).append(' ').append(loft.hoursToMonsoon());
        text.append(' ').append(loft.humidityAt(2000));
        for (int hour = 0; hour <= 2000; hour += MONSOON_HOURS) {
            text.append(' ').append(loft.humidityAt(hour));
        }
        for (int i = 0; i < loft.troughCount(); i++) {
            text.append('\n').append(loft.capacity(i)).append(' ').append(loft.kilograms(i));
            text.append(' ').append(loft.speed(i)).append(' ').append(loft.isUpwards(i));
            text.append(' ').append(loft.moisture(i, 0)).append(' ').append(loft.moisture(i, 1));
            text.append(' ').append(loft.warmth(i)).append(' ').append(loft.damage(i));
            text.append(' ').append(loft.weight(i)).append(' ').append(loft.whyNoDischarge(i));
        }
        for (int i = 0; i < loft.probeCount(); i++) {
            text.append('\n').append(loft.probeTrough(i)).append(' ').append(loft.probeLayer(i));
            text.append(' ').append(loft.reading(i));
        }
        text.append('\n').append(loft.dischargedKilograms()).append(' ').append(loft.discardedKilograms());
        text.append(' ').append(loft.totalWorth()).append(' ').append(loft.lostWater());
        return text.toString();
    }
}
