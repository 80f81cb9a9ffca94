/** What all tests share: counting wrong answers, and giving a loft a script as text. */
final class Check {
    interface Call {
        long answer();
    }

    private static int wrong = 0;

    private Check() {
    }

    static void same(String what, long got, long due) {
        if (got != due) {
            tell(what + " answered " + got + ", due is " + due);
        }
    }

    static void same(String what, double got, double due) {
        if (got != due) {
            tell(what + " answered " + got + ", due is " + due);
        }
    }

    static void same(String what, boolean got, boolean due) {
        if (got != due) {
            tell(what + " answered " + got + ", due is " + due);
        }
    }

    static void same(String what, String got, String due) {
        if (!got.equals(due)) {
            tell(what + " answered \"" + got + "\", due is \"" + due + "\"");
        }
    }

    static void throwsIndex(String what, Call call) {
        throwsExactly(what, IndexOutOfBoundsException.class, call);
    }

    static void throwsArgument(String what, Call call) {
        throwsExactly(what, IllegalArgumentException.class, call);
    }

    static void throwsState(String what, Call call) {
        throwsExactly(what, IllegalStateException.class, call);
    }

    /** A class below the kind counts as wrong: it would be one that the Java machine throws. */
    static void throwsExactly(String what, Class<? extends RuntimeException> kind, Call call) {
        try {
            tell(what + " answered " + call.answer() + ", due is " + kind.getSimpleName());
        } catch (RuntimeException thrown) {
            if (thrown.getClass() != kind) {
                tell(what + " threw " + thrown.getClass().getSimpleName() + ", due is " + kind.getSimpleName());
            }
        }
    }

    static int run(WitheringLoft loft, String script) {
        type(loft, script);
        return loft.runScript();
    }

    static void type(WitheringLoft loft, String text) {
        int before = loft.truncateInput(0);
        for (int start = 0; start < text.length(); start += 20) {
            loft.append(word(text, start), word(text, start + 4), word(text, start + 8), word(text, start + 12),
                    word(text, start + 16));
        }
        same("the length of the typed text", loft.truncateInput(before + text.length()), text.length());
    }

    static int word(String text, int start) {
        int word = 0;
        for (int i = start; i < start + 4; i++) {
            word = word << 8 | (i < text.length() ? text.charAt(i) & 0xFF : 0);
        }
        return word;
    }

    /** Runs the script on a new loft: it must succeed. */
    static WitheringLoft after(String script) {
        WitheringLoft loft = new WitheringLoft();
        if (run(loft, script) == WitheringLoft.NONE) {
            tell("the script \"" + script + "\" fails by kind " + loft.scriptErrorKind() + " at "
                    + loft.scriptErrorOffset());
        }
        return loft;
    }

    /** Runs the script on a new loft: it must fail by this error. */
    static void fails(String script, int kind, int offset) {
        WitheringLoft loft = new WitheringLoft();
        same("the script \"" + script + "\"", run(loft, script), -1);
        same("the error kind of \"" + script + "\"", loft.scriptErrorKind(), kind);
        same("the error offset of \"" + script + "\"", loft.scriptErrorOffset(), offset);
    }

    /** Runs the script on a new loft: it must succeed, and leave so many troughs. */
    static void succeeds(String script, int troughs) {
        WitheringLoft loft = new WitheringLoft();
        same("the script \"" + script + "\"", run(loft, script), troughs);
        same("the error kind of \"" + script + "\"", loft.scriptErrorKind(), 0);
        same("the error offset of \"" + script + "\"", loft.scriptErrorOffset(), -1);
    }

    static String report(WitheringLoft loft) {
        int length = loft.writeTroughs();
        StringBuilder text = new StringBuilder();
        for (int i = 0; i < length; i++) {
            text.append((char) loft.reportByte(i));
        }
        return text.toString();
    }

    /** All that the calls without an effect tell of the loft, but for the script error and the report. */
    static String view(WitheringLoft loft) {
        StringBuilder text = new StringBuilder(Edge.state(loft));
        text.append("\n").append(loft.readyTroughs()).append(' ').append(loft.violations());
        for (int hour = 0; hour <= 2000; hour += 24) {
            text.append(' ').append(loft.humidityAt(hour));
        }
        for (int i = 0; i < loft.troughCount(); i++) {
            text.append("\n").append(loft.fill(i)).append(' ').append(loft.loss(i)).append(' ').append(loft.marks(i));
        }
        return text.toString();
    }

    private static void tell(String message) {
        wrong++;
        System.out.println("  " + message);
    }

    /** The last call of each test: its exit code tells whether an answer was wrong. */
    static void end() {
        if (wrong != 0) {
            System.out.println("  " + wrong + " answers are not as due");
            System.exit(1);
        }
    }
}
