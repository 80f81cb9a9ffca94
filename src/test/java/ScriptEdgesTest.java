/** "Scripts" and promises 1 to 4, 24 and 25: the boundary cases of the input and of scripts. */
public final class ScriptEdgesTest {
    private static final int MAX_BYTES = 600;

    public static void main(String[] args) {
        promise01NothingIsThereButTheLoft();
        promise01LoftsShareNothing();
        promise02TheBufferHolds600Bytes();
        promise02NothingIsAppendedBeyondIt();
        promise02TheMostSignificantByteIsFirst();
        promise02IsNoChange();
        promise03LengthIs0ToThePresentOne();
        promise03WhatIsCutOffIsGone();
        promise04ReplacesEverything();
        promise04TheInputIsEmptyInEveryCase();
        promise04AnErrorChangesNothingElse();
        promise04AnswersTheNumberOfTroughs();
        promise24And25TellOfTheLatestScript();
        theTextHas600BytesAtMost();
        aTokenBeginsWithOneOf39Bytes();
        aWordIsAsLongAsItCanBe();
        aNumberHas1To4Digits();
        blanksSeparateTokens();
        theTextMayEndBetweenStatements();
        theTextMayNotEndInsideAStatement();
        eachTokenOfACommandIsDue();
        capacityIs10To500();
        troughsAndProbesExist();
        kilogramsAre1ToTheCapacity();
        moistureSpeedHeatAndHumidityAreInRange();
        theDayIsFromThePresentOneTo83();
        targetAndToleranceAreInRange();
        theErrorOfAProbeIs0To50();
        hoursAre1To200();
        aRepeatIsExecuted1To20Times();
        kind3IsToldAtTheSemicolon();
        kind4IsARepeatInsideTwoOthers();
        kind5IsThe201stCommand();
        theSmallestKindIsTold();
        theFirstErrorIsToldAlsoOfALaterRepetition();
        Check.end();
    }

    /** The error is at the first byte of the text behind "|", which is no part of the script. */
    private static void failsAtMark(String script, int kind) {
        int offset = script.indexOf('|');
        Check.fails(script.substring(0, offset) + script.substring(offset + 1), kind, offset);
    }

    private static String blanks(int count) {
        return " ".repeat(count);
    }

    private static void promise01NothingIsThereButTheLoft() {
        Check.throwsArgument("truncateInput(1)", () -> new WitheringLoft().truncateInput(1));
        Check.same("append(..)", new WitheringLoft().append(1, 2, 3, 4, 5), 20);
        Check.same("reportByte(0)", new WitheringLoft().reportByte(0), -1);
        Check.throwsExactly("restoreSnapshot()", java.util.NoSuchElementException.class,
                () -> new WitheringLoft().restoreSnapshot());
        Check.same("undoCount()", new WitheringLoft().undoCount(), 0);
        Check.same("undo()", new WitheringLoft().undo(), -1);
        Check.same("hour()", new WitheringLoft().hour(), 3);
        Check.same("hoursToMonsoon()", new WitheringLoft().hoursToMonsoon(), 21);
        Check.same("announceMonsoon(83), one is announced", new WitheringLoft().announceMonsoon(83), 2);
        Check.same("lostWater()", new WitheringLoft().lostWater(), 54000);
    }

    private static void promise01LoftsShareNothing() {
        WitheringLoft first = new WitheringLoft();
        first.append(1, 2, 3, 4, 5);
        first.saveSnapshot();
        first.discard(0);
        first.writeTroughs();
        first.announceMonsoon(0);
        Check.run(first, "loft;heat 9;");
        WitheringLoft second = new WitheringLoft();
        Check.same("the other loft", Edge.state(second), Edge.state(new WitheringLoft()));
        Check.same("append(..) of it", second.append(1, 2, 3, 4, 5), 20);
        Check.same("reportByte(0) of it", second.reportByte(0), -1);
        Check.same("undoCount() of it", second.undoCount(), 0);
        Check.same("scriptErrorKind() of it", second.scriptErrorKind(), 0);
    }

    private static WitheringLoft withInput(int length) {
        WitheringLoft loft = new WitheringLoft();
        Check.type(loft, blanks(length));
        return loft;
    }

    private static void promise02TheBufferHolds600Bytes() {
        Check.same("append(..) to 0", withInput(0).append(0, 0, 0, 0, 0), 20);
        Check.same("append(..) to 579", withInput(579).append(0, 0, 0, 0, 0), 599);
        Check.same("append(..) to 580", withInput(580).append(0, 0, 0, 0, 0), 600);
        Check.same("append(..) to 581", withInput(581).append(0, 0, 0, 0, 0), -1);
        Check.same("append(..) to 600", withInput(600).append(0, 0, 0, 0, 0), -1);
        WitheringLoft loft = new WitheringLoft();
        for (int length = 20; length <= MAX_BYTES; length += 20) {
            Check.same("append(..)", loft.append(0, 0, 0, 0, 0), length);
        }
        Check.same("append(..) of a full buffer", loft.append(0, 0, 0, 0, 0), -1);
        Check.same("append(..) of it again", loft.append(0, 0, 0, 0, 0), -1);
        Check.same("truncateInput(600), the length as it was", loft.truncateInput(600), 600);
    }

    private static void promise02NothingIsAppendedBeyondIt() {
        WitheringLoft loft = new WitheringLoft();
        Check.type(loft, "loft;trough 10;" + blanks(566));
        Check.same("append(..) to 581", loft.append(-1, -1, -1, -1, -1), -1);
        Check.throwsArgument("truncateInput(582)", () -> loft.truncateInput(582));
        Check.same("truncateInput(581)", loft.truncateInput(581), 581);
        Check.same("runScript() of what was there", loft.runScript(), 1);
    }

    private static void promise02TheMostSignificantByteIsFirst() {
        WitheringLoft loft = new WitheringLoft();
        // "loft", ";tro", "ugh ", "10;f", "an 0", and then " 5;" and blanks
        loft.append(0x6c6f6674, 0x3b74726f, 0x75676820, 0x31303b66, 0x616e2030);
        loft.append(0x20353b20, 0x20202020, 0x20202020, 0x20202020, 0x20202020);
        Check.same("runScript()", loft.runScript(), 1);
        Check.same("speed(0)", loft.speed(0), 5);
        // A byte with its highest bit set is no sign of the others.
        for (int place = 0; place < 4; place++) {
            WitheringLoft high = new WitheringLoft();
            high.append(0x6c6f6674, 0x3b202020, 0x20202020 | 0x80000000 >>> 8 * place, 0x20202020, 0x20202020);
            Check.same("runScript() with a high byte", high.runScript(), -1);
            Check.same("its offset", high.scriptErrorOffset(), 8 + place);
        }
    }

    private static void promise02IsNoChange() {
        WitheringLoft loft = new WitheringLoft();
        String before = Edge.state(loft);
        loft.append(1, 2, 3, 4, 5);
        loft.truncateInput(7);
        Check.same("undoCount()", loft.undoCount(), 0);
        Check.same("the loft", Edge.state(loft), before);
    }

    private static void promise03LengthIs0ToThePresentOne() {
        for (int length : new int[] {0, 1, 20, 599, 600}) {
            for (int wrong : new int[] {-1, length + 1, Integer.MIN_VALUE, Integer.MAX_VALUE}) {
                WitheringLoft loft = withInput(length);
                Check.throwsArgument("truncateInput(" + wrong + ") of " + length, () -> loft.truncateInput(wrong));
                Check.same("truncateInput(" + length + ") behind it", loft.truncateInput(length), length);
            }
            Check.same("truncateInput(0) of " + length, withInput(length).truncateInput(0), 0);
            Check.same("truncateInput(" + length + ")", withInput(length).truncateInput(length), length);
        }
    }

    private static void promise03WhatIsCutOffIsGone() {
        WitheringLoft loft = new WitheringLoft();
        Check.type(loft, "loft;heat 9;");
        loft.truncateInput(5);
        Check.throwsArgument("truncateInput(6)", () -> loft.truncateInput(6));
        Check.same("append(..), blanks", loft.append(0x20202020, 0x20202020, 0x20202020, 0x20202020, 0x20202020), 25);
        Check.same("runScript()", loft.runScript(), 0);
        Check.type(loft, "loft;heat 9;");
        loft.truncateInput(0);
        Check.same("runScript() of nothing", loft.runScript(), -1);
        Check.same("scriptErrorOffset()", loft.scriptErrorOffset(), 0);
    }

    private static void promise04ReplacesEverything() {
        WitheringLoft loft = new WitheringLoft();
        loft.setTarget(664, 24);
        loft.discharge(0);
        loft.discard(1);
        loft.setHeat(4);
        loft.setHumidity(33);
        loft.announceMonsoon(83);
        Check.same("the shortest script", Check.run(loft, "loft;"), 0);
        Check.same("hour()", loft.hour(), 0);
        Check.same("troughCount()", loft.troughCount(), 0);
        Check.same("probeCount()", loft.probeCount(), 0);
        Check.same("dryness()", loft.dryness(), 40);
        Check.same("announceMonsoon(0), the first", loft.announceMonsoon(0), 1);
        Check.same("totalWorth()", loft.totalWorth(), 0);
        Check.same("dischargedKilograms()", loft.dischargedKilograms(), 0);
        Check.same("discardedKilograms()", loft.discardedKilograms(), 0);
        Check.same("lostWater()", loft.lostWater(), 0);
        Check.same("violations()", loft.violations(), 0);
        loft.addTrough(10);
        loft.load(0, 1, 600);
        Check.same("setTarget(580, 20), as at first", loft.setTarget(580, 20), 1);
        Check.same("whyNoDischarge(0)", loft.whyNoDischarge(0), 0);
    }

    private static void promise04TheInputIsEmptyInEveryCase() {
        String[] scripts = {
            "loft;", "", "?", "loft;heat 6;", "loft;turn 0;", "loft;trough 10;turn 0;", "loft",
            "loft;repeat 1(repeat 1(repeat 1();););", "loft;repeat 20(repeat 20(heat 1;););",
        };
        for (String script : scripts) {
            WitheringLoft loft = new WitheringLoft();
            Check.run(loft, script);
            Check.throwsArgument("truncateInput(1) behind \"" + script + "\"", () -> loft.truncateInput(1));
            Check.same("append(..) behind \"" + script + "\"", loft.append(0, 0, 0, 0, 0), 20);
        }
    }

    private static void promise04AnErrorChangesNothingElse() {
        String[] scripts = {
            "", "loft", "loft;trough 10;load 0 5 700;hours 30;heat 6;", "loft;heat 5;trough 10;turn 0;",
            "loft;humidity 20;target 700 5;repeat 1(repeat 1(repeat 1();););", "loft;repeat 20(repeat 20(heat 1;););",
        };
        for (String script : scripts) {
            WitheringLoft loft = new WitheringLoft();
            loft.setHeat(1);
            loft.saveSnapshot();
            loft.setHeat(2);
            loft.writeTroughs();
            String before = Edge.state(loft);
            Check.same("the script \"" + script + "\"", Check.run(loft, script), -1);
            Check.same("the loft behind \"" + script + "\"", Edge.state(loft), before);
            Check.same("undoCount() behind \"" + script + "\"", loft.undoCount(), 2);
            Check.same("reportByte(21) behind \"" + script + "\"", loft.reportByte(21), 'u');
            Check.same("undo() behind \"" + script + "\"", loft.undo(), 1);
            Check.same("dryness() behind it", loft.dryness(), 45);
            loft.setHeat(3);
            Check.same("restoreSnapshot() behind it", loft.restoreSnapshot(), 3);
            Check.same("dryness() behind it", loft.dryness(), 45);
        }
    }

    private static void promise04AnswersTheNumberOfTroughs() {
        Check.succeeds("loft;", 0);
        Check.succeeds("loft;trough 10;", 1);
        Check.succeeds("loft;repeat 8(trough 10;);", 8);
    }

    private static void promise24And25TellOfTheLatestScript() {
        WitheringLoft loft = new WitheringLoft();
        Check.same("scriptErrorKind(), no script", loft.scriptErrorKind(), 0);
        Check.same("scriptErrorOffset(), no script", loft.scriptErrorOffset(), -1);
        Check.run(loft, "?");
        Check.same("scriptErrorKind(), an error in the first byte", loft.scriptErrorKind(), 1);
        Check.same("scriptErrorOffset(), an error in the first byte", loft.scriptErrorOffset(), 0);
        Check.run(loft, "loft;heat 6;");
        Check.same("scriptErrorKind() of the latest", loft.scriptErrorKind(), 2);
        Check.same("scriptErrorOffset() of the latest", loft.scriptErrorOffset(), 10);
        Check.run(loft, "loft;");
        Check.same("scriptErrorKind(), no error", loft.scriptErrorKind(), 0);
        Check.same("scriptErrorOffset(), no error", loft.scriptErrorOffset(), -1);
        Check.run(loft, "loft;repeat 1(repeat 1(repeat 1(");
        Check.same("scriptErrorKind()", loft.scriptErrorKind(), 4);
        loft.undo();
        loft.append(0, 0, 0, 0, 0);
        loft.saveSnapshot();
        loft.restoreSnapshot();
        Check.same("scriptErrorKind(), which stays", loft.scriptErrorKind(), 4);
        Check.same("scriptErrorOffset(), which stays", loft.scriptErrorOffset(), 23);
    }

    private static void theTextHas600BytesAtMost() {
        Check.succeeds("loft;" + blanks(595), 0);
        Check.succeeds("loft;" + blanks(585) + "trough 10;", 1);
        Check.fails("loft;" + blanks(586) + "trough 10", 1, 600);
        Check.fails("loft;" + blanks(587) + "trough 9", 2, 599);
        Check.fails("loft;" + blanks(594) + "?", 1, 599);
        Check.fails(blanks(600), 1, 600);
        Check.fails(blanks(596) + "loft", 1, 600);
        Check.succeeds(blanks(595) + "loft;", 0);
        Check.fails("7".repeat(600), 1, 0);
        Check.fails("a".repeat(600), 1, 0);
        Check.fails("loft;heat " + "0".repeat(590), 1, 10);
    }

    /** 26 letters, 10 digits, two parentheses and the semicolon; the two blanks separate tokens. */
    private static void aTokenBeginsWithOneOf39Bytes() {
        for (int value = 0; value < 256; value++) {
            char sign = (char) value;
            boolean blank = value == ' ' || value == '\n';
            String script = "loft;" + sign + "heat 1;";
            if (blank) {
                Check.succeeds(script, 0);
            } else {
                Check.fails(script, 1, 5);
            }
            boolean semicolon = sign == ';';
            boolean digit = sign >= '0' && sign <= '9';
            if (semicolon || blank) {
                Check.succeeds("loft;heat 1" + sign + (semicolon ? "" : ";"), 0);
            } else if (digit) {
                Check.fails("loft;heat 1" + sign + ";", 2, 10);
            } else {
                Check.fails("loft;heat 1" + sign + ";", 1, 11);
            }
        }
    }

    private static void aWordIsAsLongAsItCanBe() {
        failsAtMark("|loftt;", 1);
        failsAtMark("|lof;", 1);
        failsAtMark("|loftheat 1;", 1);
        failsAtMark("loft;|hea 1;", 1);
        failsAtMark("loft;|heats 1;", 1);
        failsAtMark("loft;|heatheat 1;", 1);
        failsAtMark("loft;trough 10;probe 0 |topp over 1;", 1);
        failsAtMark("loft;trough 10;probe 0 |to over 1;", 1);
        failsAtMark("loft;trough 10;probe 0 |topover 1;", 1);
        failsAtMark("loft;trough 10;probe 0 top |overr 1;", 1);
        failsAtMark("loft;trough 10;probe 0 top |ove 1;", 1);
        failsAtMark("loft;|repeats 1();", 1);
        Check.succeeds("loft;trough10;probe0bottom under1;", 1);
    }

    private static void aNumberHas1To4Digits() {
        Check.succeeds("loft;trough 0010;", 1);
        Check.succeeds("loft;heat 0000;", 0);
        Check.succeeds("loft;heat 5;", 0);
        failsAtMark("loft;heat |9999;", 2);
        failsAtMark("loft;heat |00000;", 1);
        failsAtMark("loft;heat |10000;", 1);
        failsAtMark("loft;trough |00010;", 1);
        // A run that would be the same number by the wrap-around of an int
        failsAtMark("loft;heat |4294967297;", 1);
        failsAtMark("loft;heat |;", 1);
        failsAtMark("loft;repeat |00001();", 1);
        failsAtMark("loft;|00001;", 1);
    }

    private static void blanksSeparateTokens() {
        Check.succeeds(" \n loft\n;\ntrough\n10\n; \n", 1);
        Check.succeeds("loft;repeat 2\n(\n)\n;", 0);
        failsAtMark("loft;heat 1 |2;", 1);
        failsAtMark("loft;heat 1\n|2;", 1);
        failsAtMark("loft;|he at 1;", 1);
        failsAtMark("loft;|he\nat 1;", 1);
        failsAtMark("loft;heat 1|\t;", 1);
        failsAtMark("loft;heat 1|\r\n;", 1);
    }

    private static void theTextMayEndBetweenStatements() {
        Check.succeeds("loft;", 0);
        Check.succeeds("loft; ", 0);
        Check.succeeds("loft;\n\n", 0);
        Check.succeeds("loft;trough 10;", 1);
        Check.succeeds("loft;repeat 1(trough 10;);", 1);
    }

    private static void theTextMayNotEndInsideAStatement() {
        String[] tokens = {
            "loft", ";", "trough", "10", ";", "load", "0", "5", "700", ";", "probe", "0", "top", "over", "5", ";",
            "target", "600", "5", ";", "repeat", "2", "(", "repeat", "2", "(", "heat", "1", ";", ")", ";", ")", ";",
            "hours", "5", ";",
        };
        StringBuilder text = new StringBuilder();
        int depth = 0;
        Check.fails("", 1, 0);
        Check.fails("\n", 1, 1);
        for (String token : tokens) {
            text.append(token);
            depth += token.equals("(") ? 1 : token.equals(")") ? -1 : 0;
            if (token.equals(";") && depth == 0) {
                Check.succeeds(text.toString(), text.indexOf("trough") < 0 ? 0 : 1);
            } else {
                Check.fails(text.toString(), 1, text.length());
                Check.fails(text + " \n", 1, text.length() + 2);
            }
            text.append(' ');
        }
    }

    private static void eachTokenOfACommandIsDue() {
        failsAtMark("|;", 1);
        failsAtMark("|(", 1);
        failsAtMark("|1;", 1);
        failsAtMark("|heat 1;", 1);
        failsAtMark("loft|(", 1);
        failsAtMark("loft |loft;", 1);
        failsAtMark("loft;|loft;", 1);
        failsAtMark("loft;|;", 1);
        failsAtMark("loft;|);", 1);
        failsAtMark("loft;|(heat 1;);", 1);
        failsAtMark("loft;|1;", 1);
        failsAtMark("loft;|over;", 1);
        String[] commands = {
            "trough |", "load |", "load 0 |", "load 0 5 |", "fan |", "fan 0 |", "reverse |", "heat |", "humidity |",
            "monsoon |", "target |", "target 600 |", "turn |", "discharge |", "discard |", "probe |",
            "probe 0 top over |", "calibrate |", "hours |", "repeat |",
        };
        for (String command : commands) {
            for (String wrong : new String[] {";", "top", "(", ")", "12345", "-"}) {
                failsAtMark("loft;trough 10;probe 0 top over 1;" + command + wrong, 1);
            }
        }
        failsAtMark("loft;trough 10;probe 0 |0 over 1;", 1);
        failsAtMark("loft;trough 10;probe 0 |over 1;", 1);
        failsAtMark("loft;trough 10;probe 0 top |1;", 1);
        failsAtMark("loft;trough 10;probe 0 top |top 1;", 1);
        failsAtMark("loft;repeat 2|;", 1);
        failsAtMark("loft;repeat 2|)", 1);
        failsAtMark("loft;repeat 2 |heat 1;", 1);
        failsAtMark("loft;repeat 2(|;", 1);
        failsAtMark("loft;repeat 2(|1;", 1);
        failsAtMark("loft;repeat 2(heat 1|);", 1);
        failsAtMark("loft;repeat 2()|)", 1);
        failsAtMark("loft;repeat 2()|heat 1;", 1);
        failsAtMark("loft;repeat 2();|);", 1);
        failsAtMark("loft;heat 1|(", 1);
        failsAtMark("loft;heat 1 |heat 1;", 1);
    }

    private static void capacityIs10To500() {
        failsAtMark("loft;trough |9;", 2);
        Check.succeeds("loft;trough 10;trough 500;", 2);
        failsAtMark("loft;trough |501;", 2);
        failsAtMark("loft;trough |0;", 2);
    }

    private static void troughsAndProbesExist() {
        String[] commands = {"load |", "fan |", "reverse |", "turn |", "discharge |", "discard |", "probe |"};
        for (String command : commands) {
            failsAtMark("loft;" + command + "0 1 700;", 2);
            failsAtMark("loft;repeat 2(trough 10;);" + command + "2 1 700;", 2);
            failsAtMark("loft;repeat 8(trough 10;);" + command + "8 1 700;", 2);
        }
        Check.succeeds("loft;repeat 8(trough 10;);load 7 1 600;fan 7 1;reverse 7;turn 7;discharge 7;load 7 1 600;"
                + "discard 7;probe 7 top over 1;", 8);
        failsAtMark("loft;calibrate |0;", 2);
        failsAtMark("loft;trough 10;repeat 5(probe 0 top over 1;);calibrate |5;", 2);
        failsAtMark("loft;trough 10;repeat 6(probe 0 top over 1;);calibrate |6;", 2);
        Check.succeeds("loft;trough 10;repeat 6(probe 0 top over 1;);calibrate 0;calibrate 5;", 1);
    }

    private static void kilogramsAre1ToTheCapacity() {
        failsAtMark("loft;trough 20;trough 10;load 1 |0 700;", 2);
        Check.succeeds("loft;trough 20;trough 10;load 1 1 700;", 2);
        Check.succeeds("loft;trough 20;trough 10;load 1 10 700;load 0 20 700;", 2);
        failsAtMark("loft;trough 20;trough 10;load 1 |11 700;", 2);
        failsAtMark("loft;trough 20;trough 10;load 0 |21 700;", 2);
        failsAtMark("loft;trough 500;load 0 |501 700;", 2);
    }

    private static void moistureSpeedHeatAndHumidityAreInRange() {
        failsAtMark("loft;trough 10;load 0 1 |599;", 2);
        Check.succeeds("loft;trough 10;load 0 1 600;discard 0;load 0 1 900;", 1);
        failsAtMark("loft;trough 10;load 0 1 |901;", 2);
        Check.succeeds("loft;trough 10;fan 0 0;fan 0 5;", 1);
        failsAtMark("loft;trough 10;fan 0 |6;", 2);
        Check.succeeds("loft;heat 0;heat 5;", 0);
        failsAtMark("loft;heat |6;", 2);
        failsAtMark("loft;humidity |19;", 2);
        Check.succeeds("loft;humidity 20;humidity 95;", 0);
        failsAtMark("loft;humidity |96;", 2);
    }

    private static void theDayIsFromThePresentOneTo83() {
        Check.succeeds("loft;monsoon 0;monsoon 83;", 0);
        failsAtMark("loft;monsoon |84;", 2);
        Check.succeeds("loft;hours 23;monsoon 0;", 0);
        failsAtMark("loft;hours 24;monsoon |0;", 2);
        Check.succeeds("loft;hours 24;monsoon 1;", 0);
        failsAtMark("loft;repeat 10(hours 200;);monsoon |82;", 2);
        Check.succeeds("loft;repeat 10(hours 200;);monsoon 83;", 0);
    }

    private static void targetAndToleranceAreInRange() {
        failsAtMark("loft;target |499 5;", 2);
        Check.succeeds("loft;target 500 5;target 700 50;", 0);
        failsAtMark("loft;target |701 5;", 2);
        failsAtMark("loft;target 500 |4;", 2);
        failsAtMark("loft;target 500 |51;", 2);
        failsAtMark("loft;target |499 4;", 2);
    }

    private static void theErrorOfAProbeIs0To50() {
        WitheringLoft loft = Check.after("loft;trough 10;probe 0 top over 0;probe 0 top over 50;probe 0 top under 0;"
                + "probe 0 bottom under 50;");
        Check.same("the error over 0", loft.calibrate(0), 0);
        Check.same("the error over 50", loft.calibrate(1), 50);
        Check.same("the error under 0", loft.calibrate(2), 0);
        Check.same("the error under 50", loft.calibrate(3), -50);
        WitheringLoft calibrated = Check.after("loft;trough 10;probe 0 top over 50;probe 0 top under 50;calibrate 1;");
        Check.same("the error over 50", calibrated.calibrate(0), 50);
        Check.same("the error under 50, calibrated by the script", calibrated.calibrate(1), 0);
        failsAtMark("loft;trough 10;probe 0 top over |51;", 2);
        failsAtMark("loft;trough 10;probe 0 top under |51;", 2);
    }

    private static void hoursAre1To200() {
        failsAtMark("loft;hours |0;", 2);
        Check.succeeds("loft;hours 1;hours 200;", 0);
        failsAtMark("loft;hours |201;", 2);
    }

    private static void aRepeatIsExecuted1To20Times() {
        failsAtMark("loft;repeat |0(heat 1;);", 2);
        Check.same("hour() of repeat 1", Check.after("loft;repeat 1(hours 3;);").hour(), 3);
        Check.same("hour() of repeat 2", Check.after("loft;repeat 2(hours 3;);").hour(), 6);
        Check.same("hour() of repeat 20", Check.after("loft;repeat 20(hours 3;);").hour(), 60);
        failsAtMark("loft;repeat |21(heat 1;);", 2);
        failsAtMark("loft;repeat |9999(heat 1;);", 2);
        Check.same("hour() of a repeat in another",
                Check.after("loft;repeat 3(repeat 4(hours 5;);hours 1;repeat 2(hours 7;););").hour(), 3 * 35);
        Check.same("hour() of empty repeats",
                Check.after("loft;repeat 20();repeat 20(repeat 20(););hours 1;").hour(), 1);
        // The most that 600 bytes can hold: 48 empty repeats inside another, 20 times.
        StringBuilder many = new StringBuilder("loft;repeat 20(");
        for (int i = 0; i < 48; i++) {
            many.append("repeat 20();");
        }
        Check.succeeds(many + ");", 0);
    }

    private static void kind3IsToldAtTheSemicolon() {
        failsAtMark("loft;repeat 8(trough 10;);trough 10 |;", 3);
        failsAtMark("loft;trough 10;load 0 1 600;load 0 1 600 |;", 3);
        failsAtMark("loft;monsoon 0;monsoon 0;monsoon 0;monsoon 0 |;", 3);
        failsAtMark("loft;trough 10;turn 0 |;", 3);
        failsAtMark("loft;trough 10;discard 0 |;", 3);
        failsAtMark("loft;trough 10;discharge 0 |;", 3);
        failsAtMark("loft;trough 10;load 0 1 601;discharge 0 |;", 3);
        failsAtMark("loft;trough 10;load 0 1 600;target 621 20;discharge 0 |;", 3);
        Check.succeeds("loft;trough 10;load 0 1 600;target 620 20;discharge 0 ;", 1);
        Check.succeeds("loft;trough 10;load 0 1 600;target 580 20;discharge 0 ;", 1);
        failsAtMark("loft;trough 10;load 0 1 600;target 579 20;discharge 0 |;", 3);
        failsAtMark("loft;trough 10;repeat 6(probe 0 top over 1;);probe 0 top over 1 |;", 3);
        failsAtMark("loft;repeat 9(hours 200;);hours 199;hours 2 |;", 3);
        Check.succeeds("loft;repeat 9(hours 200;);hours 199;hours 1;", 0);
        failsAtMark("loft;repeat 10(hours 200;);hours 1 |;", 3);
    }

    private static void kind4IsARepeatInsideTwoOthers() {
        failsAtMark("loft;repeat 1(repeat 1(|repeat 1();););", 4);
        failsAtMark("loft;repeat 1(repeat 1(heat 1;|repeat 0();););", 4);
        failsAtMark("loft;repeat 1(repeat 1(|repeat", 4);
        Check.succeeds("loft;repeat 1(repeat 1();repeat 1(););repeat 1(repeat 1(););", 0);
        Check.succeeds("loft;repeat 1();repeat 1();repeat 1();", 0);
        failsAtMark("loft;repeat 2(repeat 2();repeat 2(heat 1;);repeat 2(|repeat 2();););", 4);
    }

    private static void kind5IsThe201stCommand() {
        String full = "loft;repeat 20(repeat 10(heat 1;););";
        Check.succeeds(full, 0);
        failsAtMark(full + "|heat 1;", 5);
        failsAtMark(full + "|heat", 5);
        failsAtMark(full + "|heat 9;", 5);
        failsAtMark(full + "|turn 0;", 5);
        Check.succeeds(full + "repeat 20(repeat 20(););", 0);
        failsAtMark(full + "repeat 2(|hours 1;);", 5);
        failsAtMark(full + "repeat |0(hours 1;);", 2);
        Check.succeeds("loft;repeat 19(repeat 10(heat 1;););repeat 9(heat 2;);heat 3;", 0);
        failsAtMark("loft;repeat 19(repeat 10(heat 1;););repeat 9(heat 2;);heat 3;|heat 4;", 5);
        failsAtMark("loft;repeat 20(repeat 10(|heat 1;);repeat 1(heat 1;););", 5);
        failsAtMark("loft;repeat 20(repeat 10(|heat 1;);heat 1;);", 5);
        failsAtMark("loft;repeat 20(repeat 9(heat 1;);heat 1;);repeat 1(|heat 1;);", 5);
    }

    private static void theSmallestKindIsTold() {
        // Too many digits, and out of range
        failsAtMark("loft;heat |99999;", 1);
        // No command, and the 201st
        failsAtMark("loft;repeat 20(repeat 10(heat 1;););|hat 1;", 1);
        failsAtMark("loft;repeat 20(repeat 10(heat 1;););|1;", 1);
        // No semicolon, and a command that is refused
        failsAtMark("loft;trough 10;turn 0 |0;", 1);
        failsAtMark("loft;trough 10;turn 0 |heat 1;", 1);
        // A "repeat" where no command can stand, inside two others
        failsAtMark("loft;repeat 1(repeat 1(heat |repeat 1();););", 1);
        // The number of the trough does not exist, and it is no number
        failsAtMark("loft;turn |top;", 1);
        // A "repeat" inside two others, and 200 commands were executed
        failsAtMark("loft;repeat 20(repeat 10(heat 1;););repeat 1(repeat 1(|repeat 1();););", 4);
    }

    private static void theFirstErrorIsToldAlsoOfALaterRepetition() {
        failsAtMark("loft;repeat 9(trough 10|;);heat 9;", 3);
        failsAtMark("loft;trough 10;repeat 2(load 0 1 600 |;);", 3);
        failsAtMark("loft;repeat 3(monsoon |0;hours 12;);", 2);
        failsAtMark("loft;repeat 20(repeat 20(|heat 1;););", 5);
        failsAtMark("loft;repeat 2(repeat 2(trough 10;|repeat 2(trough 10;);););", 4);
        // The text behind is looked at when all repetitions are done.
        failsAtMark("loft;repeat 20(hours 200 |;);?", 3);
        failsAtMark("loft;repeat 10(hours 200 ;)|?", 1);
        failsAtMark("loft;heat |6;heat 7;", 2);
        failsAtMark("loft;trough |9;turn 0;?", 2);
    }
}
