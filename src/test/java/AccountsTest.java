/** Promises 57 to 65: the accounts, the checks and the report. */
public final class AccountsTest {
    public static void main(String[] args) {
        promise57To59Discharges();
        promise60LostWater();
        promise61MeanMoisture();
        promise62ReadyShare();
        promise63Violations();
        promise64WriteTroughs();
        promise65ReportByte();
        Check.end();
    }

    private static void promise57To59Discharges() {
        WitheringLoft loft = new WitheringLoft();
        Check.same("dischargedKilograms()", loft.dischargedKilograms(), 0);
        Check.same("discardedKilograms()", loft.discardedKilograms(), 0);
        Check.same("totalWorth()", loft.totalWorth(), 0);
        loft.setTarget(664, 24);
        loft.discharge(0);
        Check.same("dischargedKilograms()", loft.dischargedKilograms(), 50);
        Check.same("discardedKilograms()", loft.discardedKilograms(), 0);
        Check.same("totalWorth()", loft.totalWorth(), 38);
        loft.load(0, 70, 650);
        loft.discharge(0);
        Check.same("dischargedKilograms()", loft.dischargedKilograms(), 120);
        Check.same("totalWorth()", loft.totalWorth(), 108);
        loft.discard(1);
        loft.load(1, 9, 650);
        loft.discard(1);
        Check.same("discardedKilograms()", loft.discardedKilograms(), 209);
        Check.same("dischargedKilograms()", loft.dischargedKilograms(), 120);
        Check.same("totalWorth()", loft.totalWorth(), 108);
        loft.undo();
        Check.same("discardedKilograms()", loft.discardedKilograms(), 200);
    }

    private static void promise60LostWater() {
        WitheringLoft loft = new WitheringLoft();
        Check.same("lostWater()", loft.lostWater(), 54000);
        loft.passHours(1);
        Check.same("lostWater()", loft.lostWater(), 54000 + 72 * 250);
        loft.discard(0);
        Check.same("lostWater(), without what is discarded", loft.lostWater(), 72000);
        loft.passHours(1);
        Check.same("lostWater()", loft.lostWater(), 72000 + 72 * 200);
        loft.setFan(1, 0);
        loft.passHours(9);
        Check.same("lostWater(), no wind", loft.lostWater(), 86400);
        // The last decrease is cut off at 300.
        WitheringLoft dry = Check.after("loft;trough 100;load 0 100 600;fan 0 5;heat 5;humidity 20;hours 2;");
        Check.same("lostWater(), 157 and 143 of the bottom, 78 and 78 of the top", dry.lostWater(), 45600);
        dry.passHours(200);
        Check.same("lostWater()", dry.lostWater(), 60000);
    }

    private static void promise61MeanMoisture() {
        WitheringLoft loft = new WitheringLoft();
        Check.same("meanMoisture()", loft.meanMoisture(), (640.0 + 664.0 + 636.0 + 708.0) / 4.0);
        loft.load(2, 1, 601);
        Check.same("meanMoisture()", loft.meanMoisture(), 3850.0 / 6.0);
        loft.discard(0);
        loft.discard(1);
        Check.same("meanMoisture()", loft.meanMoisture(), 601.0);
        loft.discard(2);
        Check.same("meanMoisture(), all empty", loft.meanMoisture(), 0.0);
        Check.same("meanMoisture(), no trough", Check.after("loft;").meanMoisture(), 0.0);
    }

    private static void promise62ReadyShare() {
        WitheringLoft loft = new WitheringLoft();
        Check.same("readyShare()", loft.readyShare(), 0.0f);
        loft.setTarget(664, 24);
        Check.same("readyShare()", loft.readyShare(), 0.5f);
        loft.load(2, 1, 601);
        Check.same("readyShare()", loft.readyShare(), 1.0f / 3.0f);
        loft.discard(1);
        loft.discard(2);
        Check.same("readyShare()", loft.readyShare(), 1.0f);
        loft.discharge(0);
        Check.same("readyShare(), all empty", loft.readyShare(), 0.0f);
        Check.same("readyShare(), no trough", Check.after("loft;").readyShare(), 0.0f);
    }

    private static void promise63Violations() {
        WitheringLoft loft = new WitheringLoft();
        Check.same("violations()", loft.violations(), 0);
        loft.setFan(1, 0);
        loft.passHours(100);
        loft.turnLeaf(1);
        loft.discard(1);
        loft.load(1, 200, 600);
        loft.discharge(1);
        loft.load(2, 50, 900);
        loft.setFan(2, 5);
        loft.passHours(1);
        Check.same("violations()", loft.violations(), 0);
        loft.undo();
        Check.same("violations() after undo()", loft.violations(), 0);
        Check.same("violations(), no trough", Check.after("loft;").violations(), 0);
    }

    private static void promise64WriteTroughs() {
        WitheringLoft loft = new WitheringLoft();
        Check.same("writeTroughs()", loft.writeTroughs(), 22);
        Check.same("the report", Check.report(loft), "3d640/664 4u636/708 0u");
        loft.setTarget(664, 24);
        loft.setFan(2, 5);
        loft.reverse(2);
        Check.same("the report", Check.report(loft), "3d640/664! 4u636/708 5d");
        loft.discharge(0);
        Check.same("writeTroughs()", loft.writeTroughs(), 15);
        Check.same("the report", Check.report(loft), "3d 4u636/708 5d");
        Check.run(loft, "loft;");
        Check.same("writeTroughs(), no trough", loft.writeTroughs(), 0);
        Check.same("reportByte(0)", loft.reportByte(0), -1);
        WitheringLoft full = Check.after("loft;repeat 8(trough 10;);load 0 1 600;load 1 1 600;load 2 1 600;"
                + "load 3 1 600;load 4 1 600;load 5 1 600;load 6 1 600;load 7 1 600;");
        Check.same("writeTroughs() of the longest report", full.writeTroughs(), 87);
        Check.same("the last byte", full.reportByte(86), '!');
        Check.same("the byte behind it", full.reportByte(87), -1);
        WitheringLoft digits = Check.after("loft;repeat 4(trough 10;);load 0 1 799;load 1 1 609;load 2 1 690;"
                + "load 3 1 698;");
        Check.same("the report", Check.report(digits), "0u799/799 0u609/609 0u690/690 0u698/698");
    }

    private static void promise65ReportByte() {
        WitheringLoft loft = new WitheringLoft();
        Check.same("reportByte(0), nothing written", loft.reportByte(0), -1);
        loft.writeTroughs();
        Check.same("reportByte(0)", loft.reportByte(0), '3');
        Check.same("reportByte(5)", loft.reportByte(5), '/');
        Check.same("reportByte(21)", loft.reportByte(21), 'u');
        Check.same("reportByte(22)", loft.reportByte(22), -1);
        Check.same("reportByte(-1)", loft.reportByte(-1), -1);
        Check.same("reportByte(2147483647)", loft.reportByte(Integer.MAX_VALUE), -1);
        Check.same("reportByte(-2147483648)", loft.reportByte(Integer.MIN_VALUE), -1);
        loft.setFan(0, 5);
        Check.same("reportByte(0) of the report before", loft.reportByte(0), '3');
        loft.undo();
        loft.saveSnapshot();
        loft.restoreSnapshot();
        Check.same("reportByte(0)", loft.reportByte(0), '3');
        loft.discard(0);
        loft.discard(1);
        Check.same("writeTroughs()", loft.writeTroughs(), 8);
        Check.same("reportByte(8), of a longer report before", loft.reportByte(8), -1);
    }
}
