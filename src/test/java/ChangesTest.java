/** Promises 5 to 19: the changes but for runScript. */
public final class ChangesTest {
    private static final String THREE = "loft;trough 100;trough 60;trough 50;";

    public static void main(String[] args) {
        promise05AddTrough();
        promise06Load();
        promise07SetFan();
        promise08Reverse();
        promise09SetHeat();
        promise10SetHumidity();
        promise11AnnounceMonsoon();
        promise12SetTarget();
        promise13TurnLeaf();
        promise14Discharge();
        promise15Discard();
        promise16AddProbe();
        promise17MoveProbe();
        promise18Calibrate();
        promise19PassHours();
        promise19Warmth();
        promise19ProbeErrors();
        Check.end();
    }

    private static void promise05AddTrough() {
        WitheringLoft loft = new WitheringLoft();
        Check.throwsArgument("addTrough(9)", () -> loft.addTrough(9));
        Check.throwsArgument("addTrough(501)", () -> loft.addTrough(501));
        Check.throwsArgument("addTrough(-10)", () -> loft.addTrough(-10));
        Check.same("undoCount()", loft.undoCount(), 0);
        Check.same("addTrough(10)", loft.addTrough(10), 3);
        Check.same("addTrough(500)", loft.addTrough(500), 4);
        Check.same("capacity(3)", loft.capacity(3), 10);
        Check.same("capacity(4)", loft.capacity(4), 500);
        Check.same("kilograms(4)", loft.kilograms(4), 0);
        Check.same("speed(4)", loft.speed(4), 0);
        Check.same("isUpwards(4)", loft.isUpwards(4), true);
        Check.same("addTrough(10)", loft.addTrough(10), 5);
        Check.same("addTrough(10)", loft.addTrough(10), 6);
        Check.same("addTrough(11)", loft.addTrough(11), 7);
        Check.throwsState("addTrough(10), the 9th", () -> loft.addTrough(10));
        Check.throwsArgument("addTrough(9), the 9th", () -> loft.addTrough(9));
        Check.same("troughCount()", loft.troughCount(), 8);
        Check.same("undoCount()", loft.undoCount(), 5);

        // What a trough had before it was undone is gone when another comes in its place.
        loft.load(7, 11, 900);
        loft.setFan(7, 5);
        loft.reverse(7);
        for (int i = 0; i < 4; i++) {
            loft.undo();
        }
        Check.same("addTrough(20)", loft.addTrough(20), 7);
        Check.same("kilograms(7)", loft.kilograms(7), 0);
        Check.same("speed(7)", loft.speed(7), 0);
        Check.same("isUpwards(7)", loft.isUpwards(7), true);
        Check.same("moisture(7, 0)", loft.moisture(7, 0), -1);
    }

    private static void promise06Load() {
        WitheringLoft loft = Check.after(THREE);
        Check.throwsIndex("load(3, 1, 700)", () -> loft.load(3, 1, 700));
        Check.throwsIndex("load(-1, 0, 0)", () -> loft.load(-1, 0, 0));
        Check.throwsArgument("load(1, 0, 700)", () -> loft.load(1, 0, 700));
        Check.throwsArgument("load(1, 61, 700)", () -> loft.load(1, 61, 700));
        Check.throwsArgument("load(1, 60, 599)", () -> loft.load(1, 60, 599));
        Check.throwsArgument("load(1, 60, 901)", () -> loft.load(1, 60, 901));
        Check.same("load(0, 1, 600)", loft.load(0, 1, 600), 1);
        Check.same("load(1, 40, 750)", loft.load(1, 40, 750), 66);
        Check.same("load(2, 50, 900)", loft.load(2, 50, 900), 100);
        Check.same("moisture(1, 0)", loft.moisture(1, 0), 750);
        Check.same("moisture(1, 1)", loft.moisture(1, 1), 750);
        Check.same("warmth(1)", loft.warmth(1), 0);
        Check.same("damage(1)", loft.damage(1), 0);
        Check.same("weight(1)", loft.weight(1), 80000);
        Check.throwsState("load(1, 60, 700)", () -> loft.load(1, 60, 700));
        Check.throwsArgument("load(1, 61, 700) with leaf", () -> loft.load(1, 61, 700));
        Check.throwsArgument("load(1, 1, 901) with leaf", () -> loft.load(1, 1, 901));
        Check.same("kilograms(1)", loft.kilograms(1), 40);
        // New leaf has neither the warmth nor the damage of the leaf before.
        loft.passHours(15);
        loft.discard(1);
        loft.load(1, 60, 600);
        Check.same("warmth(1)", loft.warmth(1), 0);
        Check.same("damage(1)", loft.damage(1), 0);
        Check.same("violations()", loft.violations(), 0);
    }

    private static void promise07SetFan() {
        WitheringLoft loft = Check.after(THREE);
        Check.throwsIndex("setFan(3, 9)", () -> loft.setFan(3, 9));
        Check.throwsIndex("setFan(-1, 1)", () -> loft.setFan(-1, 1));
        Check.throwsArgument("setFan(0, -1)", () -> loft.setFan(0, -1));
        Check.throwsArgument("setFan(0, 6)", () -> loft.setFan(0, 6));
        Check.same("setFan(1, 5)", loft.setFan(1, 5), 0);
        Check.same("setFan(1, 2)", loft.setFan(1, 2), 5);
        Check.same("setFan(1, 0)", loft.setFan(1, 0), 2);
        Check.same("setFan(1, 0)", loft.setFan(1, 0), 0);
        Check.same("undoCount(), with the script", loft.undoCount(), 5);
        Check.same("speed(0)", loft.speed(0), 0);
    }

    private static void promise08Reverse() {
        WitheringLoft loft = new WitheringLoft();
        Check.throwsIndex("reverse(3)", () -> loft.reverse(3) ? 1 : 0);
        Check.throwsIndex("reverse(-1)", () -> loft.reverse(-1) ? 1 : 0);
        Check.same("reverse(0)", loft.reverse(0), true);
        Check.same("reverse(0)", loft.reverse(0), false);
        Check.same("reverse(2)", loft.reverse(2), false);
        Check.same("isUpwards(1)", loft.isUpwards(1), true);
        Check.same("isUpwards(2)", loft.isUpwards(2), false);
        Check.same("undoCount()", loft.undoCount(), 3);
    }

    private static void promise09SetHeat() {
        WitheringLoft loft = new WitheringLoft();
        Check.throwsArgument("setHeat(-1)", () -> loft.setHeat(-1));
        Check.throwsArgument("setHeat(6)", () -> loft.setHeat(6));
        Check.same("setHeat(5)", loft.setHeat(5), 0);
        Check.same("dryness()", loft.dryness(), 65);
        Check.same("setHeat(1)", loft.setHeat(1), 5);
        Check.same("dryness()", loft.dryness(), 45);
        Check.same("setHeat(0)", loft.setHeat(0), 1);
        Check.same("undoCount()", loft.undoCount(), 3);
    }

    private static void promise10SetHumidity() {
        WitheringLoft loft = new WitheringLoft();
        Check.throwsArgument("setHumidity(19)", () -> loft.setHumidity(19));
        Check.throwsArgument("setHumidity(96)", () -> loft.setHumidity(96));
        Check.same("setHumidity(20)", loft.setHumidity(20), 60);
        Check.same("dryness()", loft.dryness(), 80);
        Check.same("setHumidity(95)", loft.setHumidity(95), 20);
        Check.same("dryness()", loft.dryness(), 5);
        Check.same("undoCount()", loft.undoCount(), 2);
        loft.setHumidity(30);
        loft.passHours(30);
        Check.same("setHumidity(40) in a monsoon", loft.setHumidity(40), 30);
        Check.same("dryness() in a monsoon", loft.dryness(), 5);
    }

    private static void promise11AnnounceMonsoon() {
        WitheringLoft loft = new WitheringLoft();
        Check.throwsArgument("announceMonsoon(-1)", () -> loft.announceMonsoon(-1));
        Check.throwsArgument("announceMonsoon(84)", () -> loft.announceMonsoon(84));
        Check.same("announceMonsoon(0)", loft.announceMonsoon(0), 2);
        Check.same("isMonsoon()", loft.isMonsoon(), true);
        Check.same("announceMonsoon(83)", loft.announceMonsoon(83), 3);
        Check.throwsState("announceMonsoon(40)", () -> loft.announceMonsoon(40));
        Check.throwsArgument("announceMonsoon(84), the 4th", () -> loft.announceMonsoon(84));

        WitheringLoft later = Check.after("loft;hours 71;");
        Check.throwsArgument("announceMonsoon(1) on day 2", () -> later.announceMonsoon(1));
        Check.same("announceMonsoon(2) on day 2", later.announceMonsoon(2), 1);
        later.passHours(1);
        Check.throwsArgument("announceMonsoon(2) on day 3", () -> later.announceMonsoon(2));
        Check.same("announceMonsoon(3) on day 3", later.announceMonsoon(3), 2);
        WitheringLoft last = Check.after("loft;repeat 10(hours 200;);");
        Check.throwsArgument("announceMonsoon(82) in the last hour", () -> last.announceMonsoon(82));
        Check.same("announceMonsoon(83) in the last hour", last.announceMonsoon(83), 1);
    }

    private static void promise12SetTarget() {
        WitheringLoft loft = new WitheringLoft();
        Check.throwsArgument("setTarget(499, 5)", () -> loft.setTarget(499, 5));
        Check.throwsArgument("setTarget(701, 5)", () -> loft.setTarget(701, 5));
        Check.throwsArgument("setTarget(500, 4)", () -> loft.setTarget(500, 4));
        Check.throwsArgument("setTarget(500, 51)", () -> loft.setTarget(500, 51));
        // 640/664 and 636/708
        Check.same("setTarget(660, 20)", loft.setTarget(660, 20), 1);
        Check.same("setTarget(661, 20)", loft.setTarget(661, 20), 0);
        Check.same("setTarget(644, 20)", loft.setTarget(644, 20), 1);
        Check.same("setTarget(643, 20)", loft.setTarget(643, 20), 0);
        Check.same("setTarget(672, 36)", loft.setTarget(672, 36), 2);
        Check.same("setTarget(500, 5)", loft.setTarget(500, 5), 0);
        Check.same("setTarget(700, 50)", loft.setTarget(700, 50), 0);
        Check.same("undoCount()", loft.undoCount(), 7);
    }

    private static void promise13TurnLeaf() {
        WitheringLoft loft = new WitheringLoft();
        Check.throwsIndex("turnLeaf(3)", () -> loft.turnLeaf(3));
        Check.throwsIndex("turnLeaf(-1)", () -> loft.turnLeaf(-1));
        Check.throwsState("turnLeaf(2)", () -> loft.turnLeaf(2));
        Check.same("turnLeaf(0)", loft.turnLeaf(0), 652);
        Check.same("moisture(0, 0)", loft.moisture(0, 0), 652);
        Check.same("damage(0)", loft.damage(0), 2);
        Check.same("weight(0)", loft.weight(0), 89200);
        Check.same("lostWater()", loft.lostWater(), 54000);
        loft.turnLeaf(0);
        Check.same("damage(0)", loft.damage(0), 4);
        // A loss of 1*40*60/(100+58) = 15 leaves 885 and 893: the sum is even; then 7 and 15 more.
        WitheringLoft odd = Check.after("loft;trough 50;load 0 29 900;fan 0 1;hours 1;");
        Check.same("turnLeaf(0)", odd.turnLeaf(0), 889);
        odd.passHours(1);
        Check.same("moisture(0, 0)", odd.moisture(0, 0), 874);
        odd.setFan(0, 2);
        odd.setHeat(1);
        odd.passHours(1);
        // 2*45*60/158 = 34: 840 and 865
        Check.same("turnLeaf(0) of an odd sum", odd.turnLeaf(0), 853);
        Check.same("moisture(0, 0)", odd.moisture(0, 0), 852);
        Check.same("violations()", odd.violations(), 0);
    }

    private static void promise14Discharge() {
        WitheringLoft loft = new WitheringLoft();
        Check.throwsIndex("discharge(3)", () -> loft.discharge(3));
        Check.throwsIndex("discharge(-1)", () -> loft.discharge(-1));
        Check.throwsState("discharge(2), no leaf", () -> loft.discharge(2));
        Check.throwsState("discharge(0), too moist", () -> loft.discharge(0));
        loft.setTarget(700, 50);
        Check.throwsState("discharge(0), too dry", () -> loft.discharge(0));
        loft.setTarget(672, 36);
        Check.same("undoCount()", loft.undoCount(), 2);
        Check.same("discharge(0), 50 kilograms with 76 marks", loft.discharge(0), 38);
        Check.same("discharge(1), 200 kilograms with 28 marks", loft.discharge(1), 56);
        Check.same("kilograms(1)", loft.kilograms(1), 0);
        Check.same("totalWorth()", loft.totalWorth(), 94);
        Check.same("dischargedKilograms()", loft.dischargedKilograms(), 250);
        Check.throwsState("discharge(0) again", () -> loft.discharge(0));
        Check.same("violations()", loft.violations(), 0);
        // 33 kilograms with 99 marks are worth 32.67
        WitheringLoft odd = Check.after("loft;trough 99;load 0 33 600;fan 0 1;humidity 95;hours 1;");
        Check.same("marks(0)", odd.marks(0), 99);
        Check.same("discharge(0)", odd.discharge(0), 32);
        WitheringLoft turned = Check.after("loft;trough 10;load 0 10 600;repeat 19(turn 0;);repeat 19(turn 0;);"
                + "repeat 19(turn 0;);");
        Check.same("discharge(0) of leaf without marks", turned.discharge(0), 0);
        Check.same("dischargedKilograms()", turned.dischargedKilograms(), 10);
    }

    private static void promise15Discard() {
        WitheringLoft loft = new WitheringLoft();
        Check.throwsIndex("discard(3)", () -> loft.discard(3));
        Check.throwsIndex("discard(-1)", () -> loft.discard(-1));
        Check.throwsState("discard(2)", () -> loft.discard(2));
        Check.same("discard(1)", loft.discard(1), 200);
        Check.same("kilograms(1)", loft.kilograms(1), 0);
        Check.same("weight(1)", loft.weight(1), 0);
        Check.same("warmth(1)", loft.warmth(1), -1);
        Check.same("speed(1), which stays", loft.speed(1), 4);
        Check.throwsState("discard(1)", () -> loft.discard(1));
        loft.setTarget(664, 24);
        Check.same("discard(0), which is ready", loft.discard(0), 50);
        Check.same("discardedKilograms()", loft.discardedKilograms(), 250);
        Check.same("lostWater()", loft.lostWater(), 54000);
        Check.same("violations()", loft.violations(), 0);
    }

    private static void promise16AddProbe() {
        WitheringLoft loft = new WitheringLoft();
        Check.throwsIndex("addProbe(3, 2, 51)", () -> loft.addProbe(3, 2, 51));
        Check.throwsIndex("addProbe(-1, 0, 0)", () -> loft.addProbe(-1, 0, 0));
        Check.throwsArgument("addProbe(0, 2, 0)", () -> loft.addProbe(0, 2, 0));
        Check.throwsArgument("addProbe(0, -1, 0)", () -> loft.addProbe(0, -1, 0));
        Check.throwsArgument("addProbe(0, 0, 51)", () -> loft.addProbe(0, 0, 51));
        Check.throwsArgument("addProbe(0, 0, -51)", () -> loft.addProbe(0, 0, -51));
        Check.same("addProbe(0, 0, 50)", loft.addProbe(0, 0, 50), 2);
        Check.same("addProbe(1, 1, -50)", loft.addProbe(1, 1, -50), 3);
        Check.same("addProbe(2, 1, 0)", loft.addProbe(2, 1, 0), 4);
        Check.same("addProbe(0, 0, 50)", loft.addProbe(0, 0, 50), 5);
        Check.throwsState("addProbe(0, 0, 0), the 7th", () -> loft.addProbe(0, 0, 0));
        Check.throwsArgument("addProbe(0, 2, 0), the 7th", () -> loft.addProbe(0, 2, 0));
        Check.same("probeCount()", loft.probeCount(), 6);
        Check.same("reading(2)", loft.reading(2), 690);
        Check.same("reading(3)", loft.reading(3), 658);
        Check.same("reading(4)", loft.reading(4), -1);
        Check.same("undoCount()", loft.undoCount(), 4);
    }

    private static void promise17MoveProbe() {
        WitheringLoft loft = new WitheringLoft();
        Check.throwsIndex("moveProbe(2, 0, 0)", () -> loft.moveProbe(2, 0, 0));
        Check.throwsIndex("moveProbe(-1, 0, 0)", () -> loft.moveProbe(-1, 0, 0));
        Check.throwsIndex("moveProbe(0, 3, 2)", () -> loft.moveProbe(0, 3, 2));
        Check.throwsIndex("moveProbe(0, -1, 0)", () -> loft.moveProbe(0, -1, 0));
        Check.throwsArgument("moveProbe(0, 0, 2)", () -> loft.moveProbe(0, 0, 2));
        Check.throwsArgument("moveProbe(0, 0, -1)", () -> loft.moveProbe(0, 0, -1));
        Check.same("moveProbe(1, 0, 1)", loft.moveProbe(1, 0, 1), 1);
        Check.same("reading(1), with its error", loft.reading(1), 659);
        Check.same("probeTrough(1)", loft.probeTrough(1), 0);
        Check.same("probeLayer(1)", loft.probeLayer(1), 1);
        Check.same("moveProbe(1, 2, 0)", loft.moveProbe(1, 2, 0), 0);
        Check.same("moveProbe(1, 2, 0)", loft.moveProbe(1, 2, 0), 2);
        Check.same("undoCount()", loft.undoCount(), 3);
    }

    private static void promise18Calibrate() {
        WitheringLoft loft = new WitheringLoft();
        Check.throwsIndex("calibrate(2)", () -> loft.calibrate(2));
        Check.throwsIndex("calibrate(-1)", () -> loft.calibrate(-1));
        Check.same("calibrate(1)", loft.calibrate(1), -5);
        Check.same("reading(1)", loft.reading(1), 636);
        Check.same("calibrate(1)", loft.calibrate(1), 0);
        Check.same("calibrate(0)", loft.calibrate(0), 10);
        Check.same("undoCount()", loft.undoCount(), 3);
    }

    private static void promise19PassHours() {
        WitheringLoft loft = new WitheringLoft();
        Check.throwsArgument("passHours(0)", () -> loft.passHours(0));
        Check.throwsArgument("passHours(201)", () -> loft.passHours(201));
        Check.throwsArgument("passHours(-1)", () -> loft.passHours(-1));
        Check.same("passHours(1)", loft.passHours(1), 4);
        Check.same("the report", Check.report(loft), "3d616/616 4u588/684 0u");
        Check.same("passHours(20)", loft.passHours(20), 24);
        Check.same("the report, none below 300", Check.report(loft), "3d300/300 4u300/300 0u");
        Check.same("lostWater()", loft.lostWater(), 50 * 920 + 200 * 960);
        Check.same("undoCount()", loft.undoCount(), 2);

        // The hour before the monsoon is dry and its first one humid: 1*40*60/110 = 21, then 1*5*60/110 = 2.
        WitheringLoft edge = Check.after("loft;trough 100;load 0 10 900;fan 0 1;monsoon 1;hours 23;");
        int before = edge.moisture(0, 0);
        edge.passHours(1);
        Check.same("moisture(0, 0) after hour 23", edge.moisture(0, 0), before - 21);
        edge.passHours(1);
        Check.same("moisture(0, 0) after hour 24", edge.moisture(0, 0), before - 23);
        Check.same("violations()", edge.violations(), 0);

        WitheringLoft late = Check.after("loft;repeat 9(hours 200;);hours 190;");
        Check.throwsState("passHours(11) at 1990", () -> late.passHours(11));
        Check.throwsArgument("passHours(201) at 1990", () -> late.passHours(201));
        Check.same("passHours(10) at 1990", late.passHours(10), 2000);
        Check.throwsState("passHours(1) at 2000", () -> late.passHours(1));
        Check.throwsState("passHours(200) at 2000", () -> late.passHours(200));
    }

    private static void promise19Warmth() {
        WitheringLoft loft = Check.after("loft;trough 100;load 0 10 800;hours 9;");
        Check.same("warmth(0) after 9 hours", loft.warmth(0), 9);
        Check.same("damage(0) after 9 hours", loft.damage(0), 0);
        loft.passHours(1);
        Check.same("damage(0) after 10 hours", loft.damage(0), 1);
        loft.passHours(10);
        Check.same("warmth(0) after 20 hours", loft.warmth(0), 20);
        loft.passHours(1);
        Check.same("warmth(0) after 21 hours", loft.warmth(0), 20);
        Check.same("damage(0) after 21 hours", loft.damage(0), 12);
        Check.same("moisture(0, 0) without wind", loft.moisture(0, 0), 800);
        loft.setFan(0, 5);
        loft.passHours(2);
        Check.same("warmth(0) after 2 hours of wind", loft.warmth(0), 10);
        Check.same("damage(0), which counts behind the warmth", loft.damage(0), 14);
        loft.passHours(1);
        Check.same("damage(0) at warmth 5", loft.damage(0), 14);
        loft.setFan(0, 3);
        loft.passHours(2);
        Check.same("warmth(0), not below 0", loft.warmth(0), 0);
        loft.setFan(0, 0);
        loft.passHours(5);
        loft.setFan(0, 1);
        loft.passHours(1);
        Check.same("warmth(0) after 5 hours and one at the speed 1", loft.warmth(0), 4);
    }

    private static void promise19ProbeErrors() {
        WitheringLoft loft = Check.after("loft;trough 100;load 0 10 800;probe 0 top over 49;probe 0 top under 1;"
                + "probe 0 top over 50;hours 23;");
        Check.same("reading(0) at 23", loft.reading(0), 849);
        loft.passHours(1);
        Check.same("reading(0) at 24", loft.reading(0), 850);
        Check.same("reading(1) at 24", loft.reading(1), 800);
        Check.same("reading(2) at 24", loft.reading(2), 850);
        loft.passHours(24);
        Check.same("reading(0) at 48", loft.reading(0), 850);
        Check.same("reading(1) at 48", loft.reading(1), 801);
        loft.passHours(200);
        Check.same("calibrate(1) at 248", loft.calibrate(1), 9);
        Check.same("calibrate(0) at 248", loft.calibrate(0), 50);
    }
}
