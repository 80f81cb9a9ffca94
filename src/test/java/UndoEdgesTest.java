/** "Undo" and promises 20 to 23: the boundary cases of undo and of the snapshot. */
public final class UndoEdgesTest {
    public static void main(String[] args) {
        eachChangeIsUndone();
        aChangeThatChangesNothingIsUndoneToo();
        aFullLoftIsUndone();
        promise20AnswersNoneIfThereIsNothing();
        promise20UndoesTheLatestFirst();
        theLatest8AreRemembered();
        theRingGoesRoundManyTimes();
        whatWasUndoneIsNoMoreRemembered();
        aSuccessfulScriptIsUndone();
        aScriptWithAnErrorIsNot();
        aCallThatThrowsIsNot();
        theRestIsNotRestored();
        promise21CountsWhatCanBeUndone();
        promise22IsNoChange();
        promise22ReplacesTheEarlierOne();
        promise23ThrowsIfNoneWasSaved();
        promise23TheSnapshotStaysSaved();
        promise23NothingCanBeUndoneAfterwards();
        promise23RestoresWhatUndoRestores();
        Check.end();
    }

    /** After the change the loft is another one, and after undo() it is the one before. */
    private static void undoes(String script, String name, Edge.Call change) {
        WitheringLoft loft = Check.after(script);
        String before = Edge.state(loft);
        change.on(loft);
        Check.same("whether " + name + " shows", Edge.state(loft).equals(before), false);
        Check.same("undoCount() after " + name, loft.undoCount(), 2);
        Check.same("undo() of " + name, loft.undo(), 1);
        Check.same("the loft before " + name, Edge.state(loft), before);
    }

    private static void eachChangeIsUndone() {
        undoes(Edge.FIRST, "runScript", loft -> Check.run(loft, "loft;"));
        undoes(Edge.FIRST, "addTrough", loft -> loft.addTrough(10));
        undoes(Edge.FIRST, "load", loft -> loft.load(2, 1, 600));
        undoes(Edge.FIRST, "setFan", loft -> loft.setFan(2, 1));
        undoes(Edge.FIRST, "reverse", loft -> loft.reverse(2) ? 1 : 0);
        undoes(Edge.FIRST, "setHeat", loft -> loft.setHeat(1));
        undoes(Edge.FIRST, "setHumidity", loft -> loft.setHumidity(61));
        undoes(Edge.FIRST, "announceMonsoon", loft -> loft.announceMonsoon(83));
        undoes(Edge.FIRST, "setTarget to another target", loft -> loft.setTarget(652, 20));
        undoes(Edge.FIRST + "target 652 5;", "setTarget to another tolerance", loft -> loft.setTarget(652, 20));
        undoes(Edge.FIRST, "turnLeaf", loft -> loft.turnLeaf(0));
        undoes(Edge.FIRST + "target 652 20;", "discharge", loft -> loft.discharge(0));
        undoes(Edge.FIRST, "discard", loft -> loft.discard(1));
        undoes(Edge.FIRST, "addProbe", loft -> loft.addProbe(2, 0, 0));
        undoes(Edge.FIRST, "moveProbe to another trough", loft -> loft.moveProbe(1, 2, 0));
        undoes(Edge.FIRST, "moveProbe to another layer", loft -> loft.moveProbe(1, 1, 1));
        undoes(Edge.FIRST, "calibrate", loft -> loft.calibrate(0));
        undoes(Edge.FIRST, "passHours", loft -> loft.passHours(1));
        undoes(Edge.FIRST, "passHours over a day", loft -> loft.passHours(200));
    }

    private static void aChangeThatChangesNothingIsUndoneToo() {
        WitheringLoft loft = new WitheringLoft();
        loft.setHeat(1);
        loft.setHeat(1);
        loft.setFan(2, 0);
        loft.setTarget(580, 20);
        loft.moveProbe(0, 0, 1);
        Check.same("undoCount()", loft.undoCount(), 5);
        for (int left = 4; left >= 1; left--) {
            Check.same("undo()", loft.undo(), left);
            Check.same("dryness()", loft.dryness(), 45);
        }
        Check.same("undo()", loft.undo(), 0);
        Check.same("dryness()", loft.dryness(), 40);
    }

    private static void aFullLoftIsUndone() {
        String full = "loft;repeat 7(trough 10;);trough 500;load 0 10 600;load 7 500 900;fan 7 5;reverse 7;"
                + "repeat 5(probe 0 top over 50;);probe 7 bottom under 50;monsoon 0;monsoon 40;monsoon 83;";
        undoes(full, "a script", loft -> Check.run(loft, "loft;repeat 8(trough 20;);"));
        undoes(full, "discard of the last trough", loft -> loft.discard(7));
        undoes(full, "discharge of the first trough", loft -> loft.discharge(0));
        undoes(full, "moveProbe of the last probe", loft -> loft.moveProbe(5, 6, 1));
        undoes(full, "passHours", loft -> loft.passHours(200));
        undoes(full, "passHours to the end", loft -> Check.run(loft, "loft;repeat 10(hours 200;);"));
        undoes("loft;monsoon 0;monsoon 40;", "announceMonsoon of the 3rd", loft -> loft.announceMonsoon(83));
        undoes("loft;repeat 7(trough 10;);", "addTrough of the 8th", loft -> loft.addTrough(10));
        undoes("loft;trough 10;repeat 5(probe 0 top over 50;);", "addProbe of the 6th",
                loft -> loft.addProbe(0, 0, 0));
        // What was undone has its place again.
        WitheringLoft loft = Check.after("loft;trough 10;repeat 7(trough 10;);");
        loft.discard(loft.load(0, 1, 600) - 10);
        loft.undo();
        loft.undo();
        loft.undo();
        Check.same("troughCount() before the script", loft.troughCount(), 3);
        Check.same("addTrough(10)", loft.addTrough(10), 3);
    }

    private static void promise20AnswersNoneIfThereIsNothing() {
        WitheringLoft loft = new WitheringLoft();
        Check.same("undo() of a new loft", loft.undo(), -1);
        loft.setHeat(1);
        Check.same("undo()", loft.undo(), 0);
        Check.same("undo() of nothing", loft.undo(), -1);
        Check.same("undo() of nothing again", loft.undo(), -1);
        Check.same("undoCount()", loft.undoCount(), 0);
        Check.same("the loft", Edge.state(loft), Edge.state(new WitheringLoft()));
        loft.setHeat(2);
        Check.same("undoCount()", loft.undoCount(), 1);
        Check.same("undo()", loft.undo(), 0);
    }

    private static void promise20UndoesTheLatestFirst() {
        WitheringLoft loft = new WitheringLoft();
        loft.setHeat(1);
        loft.setHumidity(50);
        Check.same("dryness()", loft.dryness(), 55);
        Check.same("undo()", loft.undo(), 1);
        Check.same("dryness(), the humidity is 60 again", loft.dryness(), 45);
        Check.same("undo()", loft.undo(), 0);
        Check.same("dryness(), the heating is 0 again", loft.dryness(), 40);
    }

    private static WitheringLoft changed(int times) {
        WitheringLoft loft = new WitheringLoft();
        for (int i = 0; i < times; i++) {
            loft.passHours(1);
        }
        return loft;
    }

    private static void theLatest8AreRemembered() {
        for (int times : new int[] {7, 8, 9, 15, 16, 17}) {
            WitheringLoft loft = changed(times);
            int remembered = times < 8 ? times : 8;
            Check.same("undoCount() after " + times, loft.undoCount(), remembered);
            for (int left = remembered - 1; left >= 0; left--) {
                Check.same("undo() after " + times, loft.undo(), left);
                Check.same("hour() after " + times, loft.hour(), 3 + times - remembered + left);
            }
            Check.same("undo() of the 9th after " + times, loft.undo(), -1);
            Check.same("hour() after " + times, loft.hour(), 3 + times - remembered);
        }
    }

    private static void theRingGoesRoundManyTimes() {
        WitheringLoft loft = changed(100);
        Check.same("undoCount()", loft.undoCount(), 8);
        for (int round = 0; round < 20; round++) {
            for (int i = 0; i < 5; i++) {
                loft.undo();
            }
            Check.same("hour() after 5 calls of undo()", loft.hour(), 98);
            Check.same("undoCount()", loft.undoCount(), 3);
            for (int i = 0; i < 5; i++) {
                loft.passHours(1);
            }
            Check.same("hour()", loft.hour(), 103);
            Check.same("undoCount()", loft.undoCount(), 8);
        }
    }

    private static void whatWasUndoneIsNoMoreRemembered() {
        WitheringLoft loft = new WitheringLoft();
        loft.setHeat(1);
        loft.setHeat(2);
        loft.undo();
        loft.setHeat(3);
        Check.same("undoCount()", loft.undoCount(), 2);
        Check.same("undo()", loft.undo(), 1);
        Check.same("dryness() with the heat 1", loft.dryness(), 45);
        Check.same("undo()", loft.undo(), 0);
        Check.same("dryness() without heat", loft.dryness(), 40);
    }

    private static void aSuccessfulScriptIsUndone() {
        WitheringLoft loft = new WitheringLoft();
        loft.setHeat(1);
        String before = Edge.state(loft);
        Check.same("the script", Check.run(loft, "loft;"), 0);
        Check.same("undoCount(), one for the script", loft.undoCount(), 2);
        Check.same("the script of many commands", Check.run(loft, "loft;repeat 20(heat 2;);trough 10;"), 1);
        Check.same("undoCount(), one for the script", loft.undoCount(), 3);
        Check.same("undo()", loft.undo(), 2);
        Check.same("troughCount()", loft.troughCount(), 0);
        Check.same("undo()", loft.undo(), 1);
        Check.same("the loft", Edge.state(loft), before);
        Check.same("undo() of what was before the scripts", loft.undo(), 0);
        Check.same("dryness()", loft.dryness(), 40);
        WitheringLoft full = changed(8);
        Check.run(full, "loft;");
        Check.same("undoCount()", full.undoCount(), 8);
        full.undo();
        Check.same("hour()", full.hour(), 11);
    }

    private static void aScriptWithAnErrorIsNot() {
        WitheringLoft loft = changed(8);
        Check.same("the script", Check.run(loft, "loft;trough 10;heat 6;"), -1);
        Check.same("undoCount()", loft.undoCount(), 8);
        Check.same("undo()", loft.undo(), 7);
        Check.same("hour()", loft.hour(), 10);
        WitheringLoft made = new WitheringLoft();
        Check.same("the empty script", made.runScript(), -1);
        Check.same("undoCount()", made.undoCount(), 0);
        Check.same("undo()", made.undo(), -1);
    }

    private static void aCallThatThrowsIsNot() {
        WitheringLoft loft = changed(8);
        Check.throwsArgument("setHeat(6)", () -> loft.setHeat(6));
        Check.throwsState("discharge(2)", () -> loft.discharge(2));
        Check.throwsIndex("calibrate(2)", () -> loft.calibrate(2));
        Check.same("undo()", loft.undo(), 7);
        Check.same("hour()", loft.hour(), 10);
    }

    private static void theRestIsNotRestored() {
        WitheringLoft loft = new WitheringLoft();
        loft.setHeat(1);
        loft.setHeat(2);
        Check.run(loft, "loft;heat 7;");
        loft.append(1, 2, 3, 4, 5);
        loft.saveSnapshot();
        loft.writeTroughs();
        loft.undo();
        loft.undo();
        Check.same("append(..), the input stays", loft.append(1, 2, 3, 4, 5), 40);
        Check.same("scriptErrorKind()", loft.scriptErrorKind(), 2);
        Check.same("scriptErrorOffset()", loft.scriptErrorOffset(), 10);
        Check.same("reportByte(21)", loft.reportByte(21), 'u');
        Check.same("restoreSnapshot()", loft.restoreSnapshot(), 3);
        Check.same("dryness() of the snapshot", loft.dryness(), 50);
    }

    private static void promise21CountsWhatCanBeUndone() {
        WitheringLoft loft = new WitheringLoft();
        Check.same("undoCount() of a new loft", loft.undoCount(), 0);
        for (int times = 1; times <= 20; times++) {
            loft.reverse(0);
            Check.same("undoCount() after " + times, loft.undoCount(), times < 8 ? times : 8);
        }
        loft.append(1, 2, 3, 4, 5);
        loft.truncateInput(0);
        loft.saveSnapshot();
        loft.writeTroughs();
        loft.moistureAfter(0, 0, 200);
        loft.hoursToReady(0);
        loft.hoursToDamage(0);
        loft.bestReversal(0, 100);
        loft.slowestSpeed(0, 200);
        Check.same("undoCount() after what is no change", loft.undoCount(), 8);
    }

    private static void promise22IsNoChange() {
        WitheringLoft loft = new WitheringLoft();
        Check.same("saveSnapshot()", loft.saveSnapshot(), 3);
        Check.same("undoCount()", loft.undoCount(), 0);
        Check.same("undo()", loft.undo(), -1);
        Check.same("the loft", Edge.state(loft), Edge.state(new WitheringLoft()));
        Check.same("saveSnapshot() in hour 0", Check.after("loft;").saveSnapshot(), 0);
        Check.same("saveSnapshot() in hour 2000", Check.after("loft;repeat 10(hours 200;);").saveSnapshot(), 2000);
    }

    private static void promise22ReplacesTheEarlierOne() {
        WitheringLoft loft = new WitheringLoft();
        loft.saveSnapshot();
        loft.passHours(1);
        Check.same("saveSnapshot()", loft.saveSnapshot(), 4);
        loft.passHours(1);
        Check.same("restoreSnapshot()", loft.restoreSnapshot(), 4);
        Check.same("restoreSnapshot() again", loft.restoreSnapshot(), 4);
    }

    private static void promise23ThrowsIfNoneWasSaved() {
        WitheringLoft loft = changed(3);
        String before = Edge.state(loft);
        Check.throwsExactly("restoreSnapshot()", java.util.NoSuchElementException.class, loft::restoreSnapshot);
        Check.same("the loft", Edge.state(loft), before);
        Check.same("undoCount(), which stays", loft.undoCount(), 3);
        Check.run(loft, "loft;");
        Check.throwsExactly("restoreSnapshot() after a script", java.util.NoSuchElementException.class,
                loft::restoreSnapshot);
    }

    private static void promise23TheSnapshotStaysSaved() {
        WitheringLoft loft = new WitheringLoft();
        loft.saveSnapshot();
        String saved = Edge.state(loft);
        loft.discard(0);
        loft.setFan(1, 0);
        Check.same("restoreSnapshot()", loft.restoreSnapshot(), 3);
        loft.passHours(200);
        Check.same("restoreSnapshot()", loft.restoreSnapshot(), 3);
        Check.run(loft, "loft;");
        Check.same("restoreSnapshot()", loft.restoreSnapshot(), 3);
        Check.same("the loft", Edge.state(loft), saved);
    }

    private static void promise23NothingCanBeUndoneAfterwards() {
        WitheringLoft loft = changed(9);
        loft.saveSnapshot();
        Check.same("restoreSnapshot()", loft.restoreSnapshot(), 12);
        Check.same("undoCount()", loft.undoCount(), 0);
        Check.same("undo()", loft.undo(), -1);
        Check.same("hour()", loft.hour(), 12);
        loft.passHours(5);
        Check.same("undoCount()", loft.undoCount(), 1);
        Check.same("undo()", loft.undo(), 0);
        Check.same("hour()", loft.hour(), 12);
        Check.same("undo()", loft.undo(), -1);
    }

    private static void promise23RestoresWhatUndoRestores() {
        WitheringLoft loft = new WitheringLoft();
        loft.setTarget(664, 24);
        loft.discharge(0);
        loft.saveSnapshot();
        String saved = Edge.state(loft);
        Check.run(loft, "loft;heat 7;");
        loft.writeTroughs();
        Check.run(loft, "loft;repeat 8(trough 10;);repeat 6(probe 7 top over 1;);monsoon 0;monsoon 1;heat 5;"
                + "humidity 20;target 700 50;hours 40;");
        loft.append(1, 2, 3, 4, 5);
        Check.same("restoreSnapshot()", loft.restoreSnapshot(), 3);
        Check.same("the loft", Edge.state(loft), saved);
        Check.same("violations()", loft.violations(), 0);
        Check.same("append(..), the input stays", loft.append(1, 2, 3, 4, 5), 40);
        Check.same("scriptErrorKind(), which stays", loft.scriptErrorKind(), 0);
        Check.same("reportByte(1), which stays", loft.reportByte(1), 'd');
    }
}
