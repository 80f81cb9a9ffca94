import java.util.Random;

/**
 * Promises 4, 24 and 25 once more: random scripts, compared with a slow reader of its own that executes the
 * commands by the methods they stand for.
 */
public final class RandomScriptsTest {
    private static final String[] NAMES = {
        "trough", "load", "fan", "reverse", "heat", "humidity", "monsoon", "target", "turn", "discharge", "discard",
        "probe", "calibrate", "hours",
    };
    private static final String SPOILING = "();07 a\n?xs9";

    public static void main(String[] args) {
        Random random = new Random(20261119);
        int[] kinds = new int[6];
        for (int run = 0; run < 4000; run++) {
            String script = randomScript(random);
            if (random.nextInt(3) == 0) {
                script = spoiled(random, script);
            }
            kinds[compare(script)]++;
        }
        for (int kind = 0; kind <= 5; kind++) {
            Check.same("whether kind " + kind + " came at least 20 times", kinds[kind] >= 20, true);
        }
        Check.end();
    }

    private static int compare(String script) {
        WitheringLoft loft = new WitheringLoft();
        String before = Check.view(loft);
        int answer = Check.run(loft, script);
        SlowReader reader = new SlowReader(script);
        int kind = reader.kindOfError();
        Check.same("the error kind of \"" + script + "\"", loft.scriptErrorKind(), kind);
        Check.same("the error offset of \"" + script + "\"", loft.scriptErrorOffset(), reader.offset);
        Check.same("the answer to \"" + script + "\"", answer, kind == 0 ? reader.loft.troughCount() : -1);
        Check.same("the loft after \"" + script + "\"", Check.view(loft), kind == 0 ? Check.view(reader.loft) : before);
        return kind;
    }

    static String randomScript(Random random) {
        StringBuilder text = new StringBuilder("loft;");
        text.append("trough ").append(number(random, 9, 200)).append(';');
        text.append("load 0 ").append(number(random, 1, 9)).append(' ').append(number(random, 600, 650)).append(';');
        int count = random.nextInt(9);
        for (int i = 0; i < count; i++) {
            addStatement(random, text, 0);
        }
        if (random.nextInt(8) == 0) {
            // Some 200 commands
            text.append("repeat ").append(number(random, 14, 20)).append("(repeat ").append(number(random, 9, 15));
            text.append("(heat 1;);reverse 0;);");
            addStatement(random, text, 0);
        }
        return text.length() <= 600 ? text.toString() : "loft;" + text.substring(text.length() - 300);
    }

    private static void addStatement(Random random, StringBuilder text, int depth) {
        if (random.nextInt(6) != 0 || depth > 2) {
            addCommand(random, text, NAMES[random.nextInt(NAMES.length)]);
        } else {
            text.append("repeat ").append(number(random, 1, random.nextInt(4) == 0 ? 20 : 4)).append('(');
            int count = random.nextInt(4);
            for (int i = 0; i < count; i++) {
                addStatement(random, text, depth + 1);
            }
            text.append(')');
        }
        text.append(random.nextInt(4) == 0 ? " ; " : ";");
    }

    private static void addCommand(Random random, StringBuilder text, String name) {
        text.append(name).append(' ');
        switch (name) {
            case "trough":
                text.append(number(random, 10, 500));
                break;
            case "load":
                text.append(number(random, 0, 1)).append(' ').append(number(random, 1, 10)).append(' ');
                text.append(number(random, 600, 900));
                break;
            case "fan":
                text.append(number(random, 0, 1)).append(' ').append(number(random, 0, 5));
                break;
            case "heat":
                text.append(number(random, 0, 5));
                break;
            case "humidity":
                text.append(number(random, 20, 95));
                break;
            case "monsoon":
                text.append(number(random, 0, 83));
                break;
            case "target":
                text.append(number(random, 500, 700)).append(' ').append(number(random, 5, 50));
                break;
            case "probe":
                text.append(number(random, 0, 1)).append(random.nextBoolean() ? " top " : " bottom ");
                text.append(random.nextBoolean() ? "over " : "under ").append(number(random, 0, 50));
                break;
            case "hours":
                text.append(number(random, 1, random.nextInt(3) == 0 ? 200 : 5));
                break;
            default:
                text.append(number(random, 0, 1));
                break;
        }
    }

    /** Sometimes just outside the range. */
    private static int number(Random random, int low, int high) {
        return random.nextInt(40) == 0 ? (random.nextBoolean() && low > 0 ? low - 1 : high + 1)
                : low + random.nextInt(high - low + 1);
    }

    static String spoiled(Random random, String script) {
        StringBuilder text = new StringBuilder(script);
        int place = random.nextInt(text.length());
        switch (random.nextInt(4)) {
            case 0:
                text.setLength(place);
                break;
            case 1:
                text.deleteCharAt(place);
                break;
            case 2:
                text.setCharAt(place, SPOILING.charAt(random.nextInt(SPOILING.length())));
                break;
            default:
                if (text.length() < 600) {
                    text.insert(place, SPOILING.charAt(random.nextInt(SPOILING.length())));
                }
                break;
        }
        return text.toString();
    }

    /** Reads by recursion and substrings, and carries an error by an exception. */
    private static final class SlowReader {
        private static final class Wrong extends Exception {
            private static final long serialVersionUID = 1L;
            final int kind;
            final int offset;

            Wrong(int kind, int offset) {
                this.kind = kind;
                this.offset = offset;
            }
        }

        final String script;
        final WitheringLoft loft = new WitheringLoft();
        int offset = -1;
        private int place;
        private int start;
        private int executed;

        SlowReader(String script) {
            this.script = script;
        }

        int kindOfError() {
            loft.append(0x6c6f6674, 0x3b202020, 0x20202020, 0x20202020, 0x20202020);
            loft.runScript();
            try {
                expect("loft");
                expect(";");
                for (String token = next(); !token.isEmpty(); token = next()) {
                    statement(token, 0);
                }
                return 0;
            } catch (Wrong wrong) {
                offset = wrong.offset;
                return wrong.kind;
            }
        }

        /** The next token, "" at the end of the text. */
        private String next() throws Wrong {
            while (place < script.length() && (script.charAt(place) == ' ' || script.charAt(place) == '\n')) {
                place++;
            }
            start = place;
            String rest = script.substring(place);
            if (rest.isEmpty()) {
                return "";
            }
            String token = rest.replaceFirst("(?s)^([a-z]+|[0-9]+|[();]).*$", "$1");
            boolean known = token.matches("[a-z]+|[0-9]{1,4}|[();]");
            if (!known) {
                throw new Wrong(1, start);
            }
            place += token.length();
            return token;
        }

        private void expect(String due) throws Wrong {
            if (!next().equals(due)) {
                throw new Wrong(1, start);
            }
        }

        private int between(int low, int high) throws Wrong {
            String token = next();
            if (!token.matches("[0-9]+")) {
                throw new Wrong(1, start);
            }
            int value = Integer.parseInt(token);
            if (value < low || value > high) {
                throw new Wrong(2, start);
            }
            return value;
        }

        private int trough() throws Wrong {
            return between(0, loft.troughCount() - 1);
        }

        private boolean first(String one, String other) throws Wrong {
            String token = next();
            if (!token.equals(one) && !token.equals(other)) {
                throw new Wrong(1, start);
            }
            return token.equals(one);
        }

        private void statement(String token, int depth) throws Wrong {
            if (!token.equals("repeat")) {
                command(token);
                return;
            }
            if (depth == 2) {
                throw new Wrong(4, start);
            }
            int times = between(1, 20);
            expect("(");
            int body = place;
            for (int i = 0; i < times; i++) {
                place = body;
                for (String inner = next(); !inner.equals(")"); inner = next()) {
                    statement(inner, depth + 1);
                }
            }
            expect(";");
        }

        private void command(String name) throws Wrong {
            boolean known = false;
            for (String other : NAMES) {
                known |= other.equals(name);
            }
            if (!known || executed == 200) {
                throw new Wrong(known ? 5 : 1, start);
            }
            int a = 0;
            int b = 0;
            int c = 0;
            switch (name) {
                case "trough":
                    a = between(10, 500);
                    break;
                case "load":
                    a = trough();
                    b = between(1, loft.capacity(a));
                    c = between(600, 900);
                    break;
                case "fan":
                    a = trough();
                    b = between(0, 5);
                    break;
                case "heat":
                    a = between(0, 5);
                    break;
                case "humidity":
                    a = between(20, 95);
                    break;
                case "monsoon":
                    a = between(loft.day(), 83);
                    break;
                case "target":
                    a = between(500, 700);
                    b = between(5, 50);
                    break;
                case "probe":
                    a = trough();
                    b = first("top", "bottom") ? WitheringLoft.TOP : WitheringLoft.BOTTOM;
                    c = first("over", "under") ? between(0, 50) : -between(0, 50);
                    break;
                case "calibrate":
                    a = between(0, loft.probeCount() - 1);
                    break;
                case "hours":
                    a = between(1, 200);
                    break;
                default:
                    a = trough();
                    break;
            }
            expect(";");
            executed++;
            try {
                execute(name, a, b, c);
            } catch (IllegalStateException refused) {
                throw new Wrong(3, start);
            }
        }

        private void execute(String name, int a, int b, int c) {
            switch (name) {
                case "trough":
                    loft.addTrough(a);
                    break;
                case "load":
                    loft.load(a, b, c);
                    break;
                case "fan":
                    loft.setFan(a, b);
                    break;
                case "reverse":
                    loft.reverse(a);
                    break;
                case "heat":
                    loft.setHeat(a);
                    break;
                case "humidity":
                    loft.setHumidity(a);
                    break;
                case "monsoon":
                    loft.announceMonsoon(a);
                    break;
                case "target":
                    loft.setTarget(a, b);
                    break;
                case "turn":
                    loft.turnLeaf(a);
                    break;
                case "discharge":
                    loft.discharge(a);
                    break;
                case "discard":
                    loft.discard(a);
                    break;
                case "probe":
                    loft.addProbe(a, b, c);
                    break;
                case "calibrate":
                    loft.calibrate(a);
                    break;
                default:
                    loft.passHours(a);
                    break;
            }
        }
    }
}
