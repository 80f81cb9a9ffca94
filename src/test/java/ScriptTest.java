/** Promises 4, 24 and 25: scripts and their errors. */
public final class ScriptTest {
    public static void main(String[] args) {
        replacesEverything();
        changesNothingWithAnError();
        beginsAsAtFirstBehindEveryScript();
        executesEachCommand();
        separatesTokens();
        repeats();
        tellsGrammarErrors();
        tellsNumberErrors();
        tellsRefusedCommands();
        tellsDeepRepeats();
        tellsTooManyCommands();
        tellsTheFirstErrorAndTheSmallestKind();
        Check.end();
    }

    private static void replacesEverything() {
        WitheringLoft loft = new WitheringLoft();
        loft.setHeat(5);
        loft.setHumidity(20);
        loft.setTarget(664, 24);
        loft.discharge(0);
        loft.discard(1);
        loft.saveSnapshot();
        loft.writeTroughs();
        Check.same("the shortest script", Check.run(loft, "loft;"), 0);
        Check.same("hour()", loft.hour(), 0);
        Check.same("troughCount()", loft.troughCount(), 0);
        Check.same("probeCount()", loft.probeCount(), 0);
        Check.same("dryness()", loft.dryness(), 40);
        Check.same("hoursToMonsoon()", loft.hoursToMonsoon(), -1);
        Check.same("dischargedKilograms()", loft.dischargedKilograms(), 0);
        Check.same("discardedKilograms()", loft.discardedKilograms(), 0);
        Check.same("totalWorth()", loft.totalWorth(), 0);
        Check.same("lostWater()", loft.lostWater(), 0);
        Check.same("violations()", loft.violations(), 0);
        Check.same("addTrough(10)", loft.addTrough(10), 0);
        loft.load(0, 10, 600);
        Check.same("whyNoDischarge(0) at 600 by the first target", loft.whyNoDischarge(0), 0);
        Check.same("reportByte(0) of the report before", loft.reportByte(0), '3');
        Check.same("restoreSnapshot() of the snapshot before", loft.restoreSnapshot(), 3);
        Check.same("troughCount()", loft.troughCount(), 3);
    }

    private static void changesNothingWithAnError() {
        WitheringLoft loft = new WitheringLoft();
        loft.setHeat(2);
        String before = Check.view(loft);
        Check.same("a script with a late error", Check.run(loft, "loft;trough 20;hours 5;heat 6;"), -1);
        Check.same("the loft after it", Check.view(loft), before);
        Check.same("undoCount()", loft.undoCount(), 1);
        Check.same("scriptErrorKind()", loft.scriptErrorKind(), 2);
        Check.same("scriptErrorOffset()", loft.scriptErrorOffset(), 28);
        Check.throwsArgument("truncateInput(1)", () -> loft.truncateInput(1));
        loft.undo();
        Check.same("scriptErrorKind() after undo()", loft.scriptErrorKind(), 2);
        Check.same("an empty input", loft.runScript(), -1);
        Check.same("its error kind", loft.scriptErrorKind(), 1);
        Check.same("its error offset", loft.scriptErrorOffset(), 0);
        Check.same("a script without an error", Check.run(loft, "loft;trough 20;"), 1);
        Check.same("its error kind", loft.scriptErrorKind(), 0);
        Check.same("its error offset", loft.scriptErrorOffset(), -1);
        Check.same("troughCount()", loft.troughCount(), 1);
        Check.same("undoCount()", loft.undoCount(), 1);
    }

    /** What an earlier script did, with an error or without, leaves no trace in a later one. */
    private static void beginsAsAtFirstBehindEveryScript() {
        String[] earlier = {
            "loft;repeat 8(trough 500;);load 0 400 600;load 7 3 600;load 6 9 650;reverse 7;fan 7 2;fan 1 5;"
                    + "discharge 7;discard 6;load 5 20 900;fan 5 5;heat 5;humidity 20;monsoon 1;monsoon 2;monsoon 83;"
                    + "target 600 5;repeat 6(probe 0 top over 50;);hours 30;",
            "loft;repeat 20(repeat 10(heat 5;););",
            "loft;trough 20;load 0 20 700;hours 200;repeat 20(heat 1;repeat 9(heat 2;);hours 1;repeat",
            "loft;repeat 2(repeat 2(heat 9;););",
        };
        String[] later = {
            "loft;",
            "loft;trough 100;",
            "loft;repeat 1(heat 1;);",
            "loft;repeat 8(trough 100;);load 0 50 700;load 1 20 600;probe 0 top over 3;monsoon 60;hours 5;",
            "loft;trough 10;load 0 1 650;repeat 2(repeat 3(turn 0;hours 1;););discard 0;repeat 1(",
        };
        for (String first : earlier) {
            for (String second : later) {
                WitheringLoft fresh = new WitheringLoft();
                WitheringLoft used = new WitheringLoft();
                Check.run(used, first);
                int due = Check.run(fresh, second);
                String what = "\"" + second + "\" behind \"" + first + "\"";
                Check.same(what, Check.run(used, second), due);
                Check.same("the error kind of " + what, used.scriptErrorKind(), fresh.scriptErrorKind());
                Check.same("the error offset of " + what, used.scriptErrorOffset(), fresh.scriptErrorOffset());
                if (due != -1) {
                    Check.same("the loft of " + what, Check.view(used), Check.view(fresh));
                    Check.same("meanMoisture() of " + what, used.meanMoisture(), fresh.meanMoisture());
                }
            }
        }
    }

    private static void executesEachCommand() {
        WitheringLoft loft = Check.after("loft;trough 100;trough 60;load 0 40 700;load 1 30 600;fan 0 2;fan 1 1;"
                + "reverse 0;heat 1;humidity 50;monsoon 3;monsoon 83;target 600 10;probe 0 top over 7;"
                + "probe 1 bottom under 9;probe 1 top under 50;calibrate 2;");
        Check.same("troughCount()", loft.troughCount(), 2);
        Check.same("capacity(0)", loft.capacity(0), 100);
        Check.same("capacity(1)", loft.capacity(1), 60);
        Check.same("kilograms(0)", loft.kilograms(0), 40);
        Check.same("speed(0)", loft.speed(0), 2);
        Check.same("isUpwards(0)", loft.isUpwards(0), false);
        Check.same("isUpwards(1)", loft.isUpwards(1), true);
        Check.same("dryness()", loft.dryness(), 55);
        Check.same("hoursToMonsoon()", loft.hoursToMonsoon(), 72);
        Check.same("humidityAt(1992)", loft.humidityAt(1992), 95);
        Check.same("readyTroughs()", loft.readyTroughs(), 2);
        Check.same("reading(0)", loft.reading(0), 707);
        Check.same("reading(1)", loft.reading(1), 591);
        Check.same("reading(2)", loft.reading(2), 600);
        Check.same("probeLayer(0)", loft.probeLayer(0), 1);
        Check.same("probeLayer(1)", loft.probeLayer(1), 0);

        // loss 2*40*60/(100+40) = 34 from the top, 17 from the bottom; turned: 649 and 650
        loft = Check.after("loft;trough 100;load 0 40 675;fan 0 2;reverse 0;hours 1;turn 0;target 650 5;discharge 0;"
                + "load 0 10 900;discard 0;");
        Check.same("totalWorth(), marks 100 - 1 - 4", loft.totalWorth(), 38);
        Check.same("dischargedKilograms()", loft.dischargedKilograms(), 40);
        Check.same("discardedKilograms()", loft.discardedKilograms(), 10);
        Check.same("lostWater()", loft.lostWater(), 51 * 40);
        Check.same("hour()", loft.hour(), 1);
        Check.same("violations()", loft.violations(), 0);
    }

    private static void separatesTokens() {
        Check.succeeds("loft;trough10;load0 5 600;fan 0 05;", 1);
        Check.succeeds("\n loft \n;\n  trough\n 0010 ; \n", 1);
        Check.succeeds("loft;trough 10;probe 0top over5;probe 0bottom under0;", 1);
        Check.fails("loft;trough 10;probe 0 bottomunder 0;", 1, 23);
        Check.fails("loft;tr ough 10;", 1, 5);
        Check.fails("loft;heatz 1;", 1, 5);
        Check.fails("loft;heata 1;", 1, 5);
        Check.fails("loft;heat z;", 1, 10);
        Check.fails("loft;heat{ 1;", 1, 9);
        Check.fails("loft;heat` 1;", 1, 9);
        Check.fails("lo ft;", 1, 0);
        Check.fails("loft;troughs 10;", 1, 5);
        Check.fails("loft;trough 1 0;", 2, 12);
        Check.fails("loft;trough 10\t;", 1, 14);
        Check.fails("loft;\r", 1, 5);
        Check.fails("loft;trough 10;fan 00;", 1, 21);
        Check.fails("Loft;", 1, 0);
        Check.fails("loft;trough 10;Fan 0 0;", 1, 15);
        Check.fails("loft;trough -10;", 1, 12);
        Check.fails("loft;trough 00010;", 1, 12);
        Check.fails("loft;trough 12345678901234567890;", 1, 12);
    }

    private static void repeats() {
        WitheringLoft loft = Check.after("loft;repeat 3(trough 10;);repeat 2 ( repeat 2 ( hours 5 ; ) ; hours 1; ) ;");
        Check.same("troughCount()", loft.troughCount(), 3);
        Check.same("hour()", loft.hour(), 22);
        Check.succeeds("loft;repeat 1();", 0);
        Check.succeeds("loft;repeat 20(repeat 20(););", 0);
        Check.succeeds("loft;repeat 2(repeat 2(););repeat 2(repeat 2(););", 0);
        Check.succeeds("loft;repeat 2(repeat 2();repeat 2();trough 10;);", 2);
        Check.fails("loft;repeat 0();", 2, 12);
        Check.fails("loft;repeat 21();", 2, 12);
        Check.fails("loft;repeat();", 1, 11);
        Check.fails("loft;repeat 2;", 1, 13);
        Check.fails("loft;repeat 2(;);", 1, 14);
        Check.fails("loft;repeat 2()", 1, 15);
        Check.fails("loft;repeat 2())", 1, 15);
        Check.fails("loft;repeat 2(heat 1;", 1, 21);
        Check.fails("loft;repeat 2(heat 1);", 1, 20);
        Check.fails("loft;repeat 2(heat 1;;);", 1, 21);
        Check.fails("loft;);", 1, 5);
        Check.fails("loft;(heat 1;);", 1, 5);
    }

    private static void tellsGrammarErrors() {
        Check.fails("", 1, 0);
        Check.fails("  \n", 1, 3);
        Check.fails("loft", 1, 4);
        Check.fails("loft ", 1, 5);
        Check.fails("loft heat 1;", 1, 5);
        Check.fails("trough 10;", 1, 0);
        Check.fails(";", 1, 0);
        Check.fails("loft;;", 1, 5);
        Check.fails("loft;loft;", 1, 5);
        Check.fails("loft;heat;", 1, 9);
        Check.fails("loft;heat", 1, 9);
        Check.fails("loft;heat 1", 1, 11);
        Check.fails("loft;heat 1  ", 1, 13);
        Check.fails("loft;heat 1 2;", 1, 12);
        Check.fails("loft;heat one;", 1, 10);
        Check.fails("loft;heat (1);", 1, 10);
        Check.fails("loft;10;", 1, 5);
        Check.fails("loft;undo;", 1, 5);
        Check.fails("loft;top;", 1, 5);
        Check.fails("loft;heat 1)", 1, 11);
        Check.fails("loft;trough 10;probe 0 0 over 5;", 1, 23);
        Check.fails("loft;trough 10;probe 0 over 5;", 1, 23);
        Check.fails("loft;trough 10;probe 0 top 5;", 1, 27);
        Check.fails("loft;trough 10;probe 0 top top 5;", 1, 27);
        Check.fails("loft;trough 10;probe 0 top over;", 1, 31);
        Check.fails("loft;trough 10;moveprobe 0 0 1;", 1, 15);
        Check.fails("loft;trough 10;load 0 5;", 1, 23);
        Check.fails("loft;target 600;", 1, 15);
    }

    private static void tellsNumberErrors() {
        Check.fails("loft;trough 9;", 2, 12);
        Check.fails("loft;trough 501;", 2, 12);
        Check.succeeds("loft;trough 500;", 1);
        Check.fails("loft;load 0 5 700;", 2, 10);
        Check.fails("loft;trough 10;load 1 5 700;", 2, 20);
        Check.fails("loft;trough 10;load 0 0 700;", 2, 22);
        Check.fails("loft;trough 10;load 0 11 700;", 2, 22);
        Check.fails("loft;trough 10;load 0 10 599;", 2, 25);
        Check.fails("loft;trough 10;load 0 10 901;", 2, 25);
        Check.succeeds("loft;trough 10;load 0 10 600;", 1);
        Check.succeeds("loft;trough 10;load 0 1 900;", 1);
        Check.fails("loft;trough 10;fan 1 1;", 2, 19);
        Check.fails("loft;trough 10;fan 0 6;", 2, 21);
        Check.fails("loft;trough 10;reverse 1;", 2, 23);
        Check.fails("loft;heat 6;", 2, 10);
        Check.fails("loft;humidity 19;", 2, 14);
        Check.fails("loft;humidity 96;", 2, 14);
        Check.succeeds("loft;humidity 20;humidity 95;heat 5;heat 0;", 0);
        Check.fails("loft;monsoon 84;", 2, 13);
        Check.succeeds("loft;monsoon 83;monsoon 0;", 0);
        Check.fails("loft;hours 24;monsoon 0;", 2, 22);
        Check.succeeds("loft;hours 24;monsoon 1;", 0);
        Check.succeeds("loft;hours 23;monsoon 0;", 0);
        Check.fails("loft;target 499 5;", 2, 12);
        Check.fails("loft;target 701 5;", 2, 12);
        Check.fails("loft;target 500 4;", 2, 16);
        Check.fails("loft;target 500 51;", 2, 16);
        Check.succeeds("loft;target 500 5;target 700 50;", 0);
        Check.fails("loft;turn 0;", 2, 10);
        Check.fails("loft;discharge 0;", 2, 15);
        Check.fails("loft;discard 0;", 2, 13);
        Check.fails("loft;probe 0 top over 1;", 2, 11);
        Check.fails("loft;trough 10;probe 0 top over 51;", 2, 32);
        Check.fails("loft;trough 10;probe 0 top under 51;", 2, 33);
        Check.succeeds("loft;trough 10;probe 0 top over 50;probe 0 top under 50;", 1);
        Check.fails("loft;calibrate 0;", 2, 15);
        Check.fails("loft;trough 10;probe 0 top over 1;calibrate 1;", 2, 44);
        Check.fails("loft;hours 0;", 2, 11);
        Check.fails("loft;hours 201;", 2, 11);
        Check.succeeds("loft;hours 200;", 0);
        Check.fails("loft;hours 9999;", 2, 11);
    }

    private static void tellsRefusedCommands() {
        Check.fails("loft;repeat 9(trough 10;);", 3, 23);
        Check.succeeds("loft;repeat 8(trough 10;);", 8);
        Check.fails("loft;trough 10;load 0 5 700;load 0 5 700;", 3, 40);
        Check.succeeds("loft;trough 10;load 0 5 700;discard 0;load 0 5 700;", 1);
        Check.fails("loft;monsoon 1;monsoon 1;monsoon 2;monsoon 3;", 3, 44);
        Check.fails("loft;trough 10;turn 0 ;", 3, 22);
        Check.fails("loft;trough 10;discard 0;", 3, 24);
        Check.fails("loft;trough 10;discharge 0;", 3, 26);
        Check.fails("loft;trough 10;load 0 5 601;discharge 0;", 3, 39);
        Check.fails("loft;trough 10;load 0 5 600;target 700 50;discharge 0;", 3, 53);
        Check.succeeds("loft;trough 10;load 0 5 600;discharge 0;", 1);
        Check.fails("loft;trough 10;repeat 7(probe 0 top over 1;);", 3, 42);
        Check.succeeds("loft;trough 10;repeat 6(probe 0 top over 1;);", 1);
        Check.fails("loft;repeat 11(hours 200;);", 3, 24);
        Check.succeeds("loft;repeat 10(hours 200;);", 0);
        Check.fails("loft;repeat 10(hours 200;);hours 1;", 3, 34);
    }

    private static void tellsDeepRepeats() {
        Check.fails("loft;repeat 2(repeat 2(repeat", 4, 23);
        Check.fails("loft;repeat 1(heat 1;repeat 1(heat 2;repeat 1();););", 4, 37);
        // The inner repeats are closed when the next one begins.
        Check.succeeds("loft;repeat 2(repeat 2(heat 1;);repeat 2(heat 2;););repeat 1(repeat 1(););", 0);
        Check.fails("loft;repeat 2(repeat 2(repea", 1, 23);
        // Where no command can stand, the word is no token that is allowed.
        Check.fails("loft;repeat 2(repeat 2(heat repeat", 1, 28);
        Check.fails("loft;repeat 2(repeat 2(heat 1 repeat", 1, 30);
    }

    private static void tellsTooManyCommands() {
        Check.succeeds("loft;repeat 20(repeat 10(heat 1;););", 0);
        Check.fails("loft;repeat 20(repeat 10(heat 1;););heat 1;", 5, 36);
        Check.succeeds("loft;repeat 20(repeat 10(heat 1;););repeat 2();", 0);
        Check.fails("loft;repeat 20(repeat 10(heat 1;););repeat 2(heat 9;);", 5, 45);
        Check.fails("loft;repeat 20(repeat 11(heat 1;););", 5, 25);
        Check.fails("loft;repeat 20(heat 1;repeat 10(heat 1;););", 5, 32);
        Check.fails("loft;repeat 20(repeat 10(heat 1;););hotter 1;", 1, 36);
        Check.fails("loft;repeat 20(repeat 10(heat 1;););7", 1, 36);
    }

    private static void tellsTheFirstErrorAndTheSmallestKind() {
        // The first token that is wrong counts, whatever comes behind it.
        Check.fails("loft;trough 9 junk", 2, 12);
        Check.fails("loft;trough 10;turn 1 junk", 2, 20);
        Check.fails("loft;trough 10;turn 0 0;", 1, 22);
        Check.fails("loft;heat 6;?", 2, 10);
        // A run of more than 4 digits is out of range too, but the smaller kind is told.
        Check.fails("loft;heat 66666;", 1, 10);
        // The second repetition finds the error.
        Check.fails("loft;trough 10;repeat 2(load 0 5 700;);", 3, 36);
        Check.fails("loft;repeat 2(monsoon 0;hours 24;);", 2, 22);
        // The first repetition reaches the end of its body before the text ends wrongly.
        Check.fails("loft;repeat 3(hours 200;);repeat 8(hours 200;);heat", 3, 44);
    }
}
