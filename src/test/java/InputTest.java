/** Promises 2 and 3. */
public final class InputTest {
    public static void main(String[] args) {
        promise02Append();
        promise03TruncateInput();
        Check.end();
    }

    private static void promise02Append() {
        WitheringLoft loft = new WitheringLoft();
        // "loft;trough 10;heat " and then "3;" and two blanks
        Check.same("append(..)", loft.append(0x6c6f6674, 0x3b74726f, 0x75676820, 0x31303b68, 0x65617420), 20);
        Check.same("append(..)", loft.append(0x333b2020, 0x20202020, 0x20202020, 0x20202020, 0x20202020), 40);
        Check.same("runScript()", loft.runScript(), 1);
        Check.same("dryness()", loft.dryness(), 55);
        Check.same("append(..) after runScript()", loft.append(0, 0, 0, 0, 0), 20);

        WitheringLoft full = new WitheringLoft();
        for (int length = 20; length <= 580; length += 20) {
            Check.same("append(..)", full.append(-1, -1, -1, -1, -1), length);
        }
        Check.same("truncateInput(561)", full.truncateInput(561), 561);
        Check.same("append(..) to 581", full.append(-1, -1, -1, -1, -1), 581);
        Check.same("append(..) past 600", full.append(-1, -1, -1, -1, -1), -1);
        Check.same("the length after it", full.truncateInput(581), 581);
        Check.throwsArgument("truncateInput(582)", () -> full.truncateInput(582));
        Check.same("truncateInput(580)", full.truncateInput(580), 580);
        Check.same("append(..) to 600", full.append(-1, -1, -1, -1, -1), 600);
        Check.same("append(..) to 620", full.append(-1, -1, -1, -1, -1), -1);
        Check.same("the length after it", full.truncateInput(600), 600);

        // All 600 bytes are read, the last one too.
        StringBuilder text = new StringBuilder("loft;");
        while (text.length() < 599) {
            text.append(' ');
        }
        text.append('?');
        Check.same("a script of 600 bytes", Check.run(loft, text.toString()), -1);
        Check.same("its error's offset", loft.scriptErrorOffset(), 599);

        // A byte of 128 or more is no letter, and the order within a word counts.
        loft.append(0x6c6f6674, 0x3bec2020, 0, 0, 0);
        Check.same("runScript()", loft.runScript(), -1);
        Check.same("the offset of byte 236", loft.scriptErrorOffset(), 5);
    }

    private static void promise03TruncateInput() {
        WitheringLoft loft = new WitheringLoft();
        Check.same("truncateInput(0)", loft.truncateInput(0), 0);
        Check.throwsArgument("truncateInput(1)", () -> loft.truncateInput(1));
        Check.throwsArgument("truncateInput(-1)", () -> loft.truncateInput(-1));
        loft.append(0x6c6f6674, 0x3b3b3b3b, 0, 0, 0);
        Check.throwsArgument("truncateInput(21)", () -> loft.truncateInput(21));
        Check.throwsArgument("truncateInput(-2147483648)", () -> loft.truncateInput(Integer.MIN_VALUE));
        Check.throwsArgument("truncateInput(2147483647)", () -> loft.truncateInput(Integer.MAX_VALUE));
        Check.same("truncateInput(20)", loft.truncateInput(20), 20);
        Check.same("truncateInput(5)", loft.truncateInput(5), 5);
        Check.throwsArgument("truncateInput(6)", () -> loft.truncateInput(6));
        Check.same("undoCount()", loft.undoCount(), 0);
        Check.same("runScript()", loft.runScript(), 0);
        Check.throwsArgument("truncateInput(1) after runScript()", () -> loft.truncateInput(1));
    }
}
