import java.util.ArrayList;
import java.util.List;

/** Promises 20 to 23: undo and the snapshot. */
public final class UndoTest {
    public static void main(String[] args) {
        promise20UndoesEachChange();
        promise20RemembersEight();
        promise20LeavesWhatIsNoChange();
        promise21CountsOnlyChanges();
        promise22And23Snapshot();
        Check.end();
    }

    private static void change(WitheringLoft loft, int which) {
        switch (which) {
            case 0:
                loft.addTrough(33);
                break;
            case 1:
                loft.load(2, 20, 600);
                break;
            case 2:
                loft.setFan(2, 5);
                break;
            case 3:
                loft.reverse(1);
                break;
            case 4:
                loft.setHeat(3);
                break;
            case 5:
                loft.setHumidity(44);
                break;
            case 6:
                loft.announceMonsoon(0);
                break;
            case 7:
                loft.setTarget(664, 24);
                break;
            case 8:
                loft.turnLeaf(1);
                break;
            case 9:
                loft.discharge(0);
                break;
            case 10:
                loft.discard(1);
                break;
            case 11:
                loft.addProbe(0, 0, 3);
                break;
            case 12:
                loft.moveProbe(0, 2, 0);
                break;
            case 13:
                loft.calibrate(0);
                break;
            case 14:
                loft.passHours(30);
                break;
            default:
                Check.run(loft, "loft;trough 77;load 0 7 700;hours 3;");
                break;
        }
    }

    private static void promise20UndoesEachChange() {
        WitheringLoft loft = new WitheringLoft();
        List<String> views = new ArrayList<>();
        for (int which = 0; which <= 15; which++) {
            views.add(Check.view(loft));
            change(loft, which);
            Check.same("whether change " + which + " shows", Check.view(loft).equals(views.get(which)), false);
            if (which % 8 == 7) {
                String last = Check.view(loft);
                for (int back = 7; back >= 0; back--) {
                    Check.same("undo()", loft.undo(), back);
                    Check.same("the loft before change " + (which - 7 + back), Check.view(loft),
                            views.get(which - 7 + back));
                }
                for (int again = which - 7; again <= which; again++) {
                    change(loft, again);
                }
                Check.same("the loft with the changes again", Check.view(loft), last);
            }
        }
    }

    private static void promise20RemembersEight() {
        WitheringLoft loft = new WitheringLoft();
        Check.same("undo()", loft.undo(), -1);
        for (int hours = 1; hours <= 20; hours++) {
            loft.passHours(hours);
            Check.same("undoCount()", loft.undoCount(), Math.min(hours, 8));
        }
        for (int left = 7; left >= 0; left--) {
            Check.same("undo()", loft.undo(), left);
            Check.same("undoCount()", loft.undoCount(), left);
        }
        Check.same("hour() after 12 calls", loft.hour(), 3 + 78);
        Check.same("undo() of the 9th", loft.undo(), -1);
        Check.same("hour()", loft.hour(), 3 + 78);
        loft.passHours(1);
        Check.same("undo()", loft.undo(), 0);
        Check.same("hour()", loft.hour(), 3 + 78);
    }

    private static void promise20LeavesWhatIsNoChange() {
        WitheringLoft loft = new WitheringLoft();
        loft.setHeat(1);
        loft.saveSnapshot();
        loft.setHeat(2);
        loft.writeTroughs();
        Check.run(loft, "loft;heat 9;");
        Check.type(loft, "loft;heat 4;");
        loft.undo();
        loft.undo();
        Check.same("dryness()", loft.dryness(), 40);
        Check.same("scriptErrorKind()", loft.scriptErrorKind(), 2);
        Check.same("scriptErrorOffset()", loft.scriptErrorOffset(), 10);
        Check.same("reportByte(1)", loft.reportByte(1), 'd');
        Check.same("the length of the input", loft.truncateInput(12), 12);
        Check.same("runScript()", loft.runScript(), 0);
        Check.same("dryness()", loft.dryness(), 60);
        loft.restoreSnapshot();
        Check.same("dryness() of the snapshot", loft.dryness(), 45);
    }

    private static void promise21CountsOnlyChanges() {
        WitheringLoft loft = new WitheringLoft();
        Check.same("undoCount()", loft.undoCount(), 0);
        Check.throwsArgument("setHeat(9)", () -> loft.setHeat(9));
        Check.throwsState("discharge(0)", () -> loft.discharge(0));
        Check.throwsIndex("reverse(5)", () -> loft.reverse(5) ? 1 : 0);
        Check.run(loft, "loft");
        loft.saveSnapshot();
        loft.writeTroughs();
        loft.moistureAfter(0, 0, 9);
        loft.bestReversal(0, 9);
        Check.same("undoCount()", loft.undoCount(), 0);
        loft.setHeat(0);
        Check.same("undoCount() after a change that changes nothing", loft.undoCount(), 1);
        Check.run(loft, "loft;");
        Check.same("undoCount()", loft.undoCount(), 2);
        loft.undo();
        Check.same("undoCount()", loft.undoCount(), 1);
        Check.same("troughCount()", loft.troughCount(), 3);
    }

    private static void promise22And23Snapshot() {
        WitheringLoft loft = new WitheringLoft();
        Check.throwsExactly("restoreSnapshot()", java.util.NoSuchElementException.class, loft::restoreSnapshot);
        loft.passHours(2);
        String saved = Check.view(loft);
        Check.same("saveSnapshot()", loft.saveSnapshot(), 5);
        Check.same("undoCount()", loft.undoCount(), 1);
        for (int which = 0; which <= 15; which++) {
            if (which != 9) {
                change(loft, which);
            }
        }
        Check.same("restoreSnapshot()", loft.restoreSnapshot(), 5);
        Check.same("the loft of the snapshot", Check.view(loft), saved);
        Check.same("undoCount()", loft.undoCount(), 0);
        Check.same("undo()", loft.undo(), -1);
        // 592/568 and no longer 640/664
        Check.same("the target of the snapshot", loft.whyNoDischarge(0), 0);
        loft.passHours(7);
        Check.same("undoCount()", loft.undoCount(), 1);
        Check.same("restoreSnapshot(), which stays saved", loft.restoreSnapshot(), 5);
        Check.same("the loft of the snapshot", Check.view(loft), saved);
        loft.passHours(7);
        Check.same("saveSnapshot() in place of it", loft.saveSnapshot(), 12);
        loft.undo();
        Check.same("hour()", loft.hour(), 5);
        Check.same("restoreSnapshot()", loft.restoreSnapshot(), 12);
    }
}
