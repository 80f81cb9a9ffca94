/** Promises 5 to 19: the boundary cases of the changes, a test for each sentence that names some. */
public final class ChangeEdgesTest {
    private static final String FULL = "loft;repeat 8(trough 100;);repeat 6(probe 0 top over 1;);monsoon 1;"
            + "monsoon 20;monsoon 40;load 7 50 700;hours 30;";
    private static final String NO_TROUGH = "loft;";

    public static void main(String[] args) {
        promise05CapacityIs10To500();
        promise05IsRefusedIfThereAre8Troughs();
        promise05AddsAnEmptyTrough();
        promise06TroughExists();
        promise06KilogramsAre1ToTheCapacity();
        promise06MoistureIs600To900();
        promise06IsRefusedIfTheTroughHasLeaf();
        promise06BeginsWithoutWarmthAndDamage();
        promise06AnswersTheFillRoundedDown();
        promise07TroughExistsAndSpeedIs0To5();
        promise08TroughExists();
        promise08TwiceIsAsBefore();
        promise09LevelIs0To5();
        promise10PercentIs20To95();
        promise11DayIsFromThePresentOneTo83();
        promise11IsRefusedIf3WereAnnounced();
        promise11TheSameDayCountsAgain();
        promise12TargetIs500To700AndToleranceIs5To50();
        promise12CountsWhatIsReadyAfterwards();
        promise13TroughExistsAndHasLeaf();
        promise13TheTopLayerGetsTheRest();
        promise13TheDamageIncreasesBy2();
        promise14TroughExists();
        promise14IsRefusedForEachReason();
        promise14TakesLeafAtBothEndsOfTheTolerance();
        promise14RoundsTheWorthDown();
        promise14TheTroughIsEmptyThen();
        promise15TroughExistsAndHasLeaf();
        promise15DiscardsAtAnyTime();
        promise16TroughLayerAndErrorAreInRange();
        promise16IsRefusedIfThereAre6Probes();
        promise17ProbeTroughAndLayerExist();
        promise17ToTheSamePlace();
        promise18ProbeExistsAndItsErrorIs0Afterwards();
        promise19HoursAre1To200();
        promise19TheHourIs2000AtMost();
        Check.end();
    }

    private static void promise05CapacityIs10To500() {
        Edge.takes(Edge.FIRST, "addTrough", 10, 500, WitheringLoft::addTrough);
        Edge.takes(NO_TROUGH, "addTrough", 10, 500, WitheringLoft::addTrough);
        Edge.refusesArgument(Edge.FIRST, "addTrough(0)", loft -> loft.addTrough(0));
        Edge.refusesArgument(Edge.FIRST, "addTrough(-10)", loft -> loft.addTrough(-10));
    }

    private static void promise05IsRefusedIfThereAre8Troughs() {
        Check.same("addTrough(10), the first", Check.after(NO_TROUGH).addTrough(10), 0);
        Check.same("addTrough(10), the 8th", Check.after("loft;repeat 7(trough 10;);").addTrough(10), 7);
        Edge.refusesState(FULL, "addTrough(10)", loft -> loft.addTrough(10));
        Edge.refusesState(FULL, "addTrough(500)", loft -> loft.addTrough(500));
        Edge.refusesArgument(FULL, "addTrough(9)", loft -> loft.addTrough(9));
        Edge.refusesArgument(FULL, "addTrough(501)", loft -> loft.addTrough(501));
    }

    private static void promise05AddsAnEmptyTrough() {
        WitheringLoft loft = new WitheringLoft();
        Check.same("addTrough(70)", loft.addTrough(70), 3);
        Check.same("capacity(3)", loft.capacity(3), 70);
        Check.same("kilograms(3)", loft.kilograms(3), 0);
        Check.same("speed(3)", loft.speed(3), 0);
        Check.same("isUpwards(3)", loft.isUpwards(3), true);
        Check.same("whyNoDischarge(3)", loft.whyNoDischarge(3), WitheringLoft.NO_LEAF);
    }

    private static void promise06TroughExists() {
        Edge.exist("loft;repeat 3(trough 10;);", "load", 3, (loft, trough) -> loft.load(trough, 1, 700));
        Edge.exist(NO_TROUGH, "load", 0, (loft, trough) -> loft.load(trough, 1, 700));
        Edge.refusesIndex(Edge.FIRST, "load(3, 0, 700)", loft -> loft.load(3, 0, 700));
        Edge.refusesIndex(Edge.FIRST, "load(-1, 1, 599)", loft -> loft.load(-1, 1, 599));
    }

    private static void promise06KilogramsAre1ToTheCapacity() {
        Edge.takes(Edge.FIRST, "load into 50 kilograms", 1, 50, (loft, kilograms) -> loft.load(2, kilograms, 700));
        Edge.takes("loft;trough 10;trough 500;", "load into 10 kilograms", 1, 10,
                (loft, kilograms) -> loft.load(0, kilograms, 700));
        Edge.takes("loft;trough 10;trough 500;", "load into 500 kilograms", 1, 500,
                (loft, kilograms) -> loft.load(1, kilograms, 700));
    }

    private static void promise06MoistureIs600To900() {
        Edge.takes(Edge.FIRST, "load at a moisture", 600, 900, (loft, moisture) -> loft.load(2, 50, moisture));
    }

    private static void promise06IsRefusedIfTheTroughHasLeaf() {
        Edge.refusesState(Edge.FIRST, "load(0, 1, 600)", loft -> loft.load(0, 1, 600));
        Edge.refusesState(Edge.FIRST, "load(1, 200, 900)", loft -> loft.load(1, 200, 900));
        Edge.refusesState("loft;trough 10;load 0 1 600;", "load(0, 9, 600), which has room",
                loft -> loft.load(0, 9, 600));
        Edge.refusesArgument(Edge.FIRST, "load(0, 101, 600)", loft -> loft.load(0, 101, 600));
        Edge.refusesArgument(Edge.FIRST, "load(0, 0, 600)", loft -> loft.load(0, 0, 600));
        Edge.refusesArgument(Edge.FIRST, "load(0, 1, 599)", loft -> loft.load(0, 1, 599));
        Edge.accepts(Edge.FIRST + "discard 0;", "load(0, 100, 600)", loft -> loft.load(0, 100, 600));
        Edge.accepts(Edge.FIRST + "target 664 24;discharge 0;", "load(0, 100, 600)", loft -> loft.load(0, 100, 600));
    }

    private static void promise06BeginsWithoutWarmthAndDamage() {
        WitheringLoft loft = Check.after("loft;trough 10;load 0 5 700;hours 30;discard 0;");
        loft.load(0, 5, 700);
        Check.same("warmth(0)", loft.warmth(0), 0);
        Check.same("damage(0)", loft.damage(0), 0);
        Check.same("weight(0)", loft.weight(0), 10000);
        Check.same("spread(0)", loft.spread(0), 0);
        Check.same("marks(0)", loft.marks(0), 100);
    }

    private static void promise06AnswersTheFillRoundedDown() {
        Check.same("load(0, 1, 700) of 500", Check.after("loft;trough 500;").load(0, 1, 700), 0);
        Check.same("load(0, 4, 700) of 500", Check.after("loft;trough 500;").load(0, 4, 700), 0);
        Check.same("load(0, 5, 700) of 500", Check.after("loft;trough 500;").load(0, 5, 700), 1);
        Check.same("load(0, 499, 700) of 500", Check.after("loft;trough 500;").load(0, 499, 700), 99);
        Check.same("load(0, 500, 700) of 500", Check.after("loft;trough 500;").load(0, 500, 700), 100);
    }

    private static void promise07TroughExistsAndSpeedIs0To5() {
        Edge.exist(Edge.FIRST, "setFan", 3, (loft, trough) -> loft.setFan(trough, 1));
        Edge.exist(NO_TROUGH, "setFan", 0, (loft, trough) -> loft.setFan(trough, 1));
        Edge.takes(Edge.FIRST, "setFan", 0, 5, (loft, speed) -> loft.setFan(0, speed));
        Edge.refusesIndex(Edge.FIRST, "setFan(3, 6)", loft -> loft.setFan(3, 6));
        Edge.refusesIndex(Edge.FIRST, "setFan(-1, -1)", loft -> loft.setFan(-1, -1));
        WitheringLoft loft = new WitheringLoft();
        Check.same("setFan(2, 5) of a fan as at first", loft.setFan(2, 5), 0);
        Check.same("setFan(2, 0)", loft.setFan(2, 0), 5);
    }

    private static void promise08TroughExists() {
        Edge.exist(Edge.FIRST, "reverse", 3, (loft, trough) -> loft.reverse(trough) ? 1 : 0);
        Edge.exist(NO_TROUGH, "reverse", 0, (loft, trough) -> loft.reverse(trough) ? 1 : 0);
    }

    private static void promise08TwiceIsAsBefore() {
        WitheringLoft loft = new WitheringLoft();
        Check.same("reverse(2) of a fan as at first", loft.reverse(2), false);
        Check.same("reverse(2)", loft.reverse(2), true);
        Check.same("isUpwards(2)", loft.isUpwards(2), true);
    }

    private static void promise09LevelIs0To5() {
        Edge.takes(Edge.FIRST, "setHeat", 0, 5, WitheringLoft::setHeat);
        WitheringLoft loft = Check.after(NO_TROUGH);
        Check.same("setHeat(5) of a heating as at first", loft.setHeat(5), 0);
        Check.same("setHeat(5)", loft.setHeat(5), 5);
        Check.same("setHeat(0)", loft.setHeat(0), 5);
    }

    private static void promise10PercentIs20To95() {
        Edge.takes(Edge.FIRST, "setHumidity", 20, 95, WitheringLoft::setHumidity);
        WitheringLoft loft = Check.after("loft;monsoon 0;");
        Check.same("setHumidity(20) in a monsoon, as at first", loft.setHumidity(20), 60);
        Check.same("setHumidity(95)", loft.setHumidity(95), 20);
        Check.same("setHumidity(20)", loft.setHumidity(20), 95);
    }

    private static void promise11DayIsFromThePresentOneTo83() {
        Edge.takes(NO_TROUGH, "announceMonsoon in hour 0", 0, 83, WitheringLoft::announceMonsoon);
        Edge.takes("loft;hours 23;", "announceMonsoon in hour 23", 0, 83, WitheringLoft::announceMonsoon);
        Edge.takes("loft;hours 24;", "announceMonsoon in hour 24", 1, 83, WitheringLoft::announceMonsoon);
        Edge.takes("loft;hours 47;", "announceMonsoon in hour 47", 1, 83, WitheringLoft::announceMonsoon);
        Edge.takes("loft;repeat 9(hours 200;);hours 191;", "announceMonsoon in hour 1991", 82, 83,
                WitheringLoft::announceMonsoon);
        Edge.takes("loft;repeat 9(hours 200;);hours 192;", "announceMonsoon in hour 1992", 83, 83,
                WitheringLoft::announceMonsoon);
        Edge.takes("loft;repeat 10(hours 200;);", "announceMonsoon in hour 2000", 83, 83,
                WitheringLoft::announceMonsoon);
    }

    private static void promise11IsRefusedIf3WereAnnounced() {
        Check.same("announceMonsoon(5), the first", Check.after(NO_TROUGH).announceMonsoon(5), 1);
        Check.same("announceMonsoon(5), the 3rd", Check.after("loft;monsoon 1;monsoon 9;").announceMonsoon(5), 3);
        Edge.refusesState(FULL, "announceMonsoon(1)", loft -> loft.announceMonsoon(1));
        Edge.refusesState(FULL, "announceMonsoon(83)", loft -> loft.announceMonsoon(83));
        Edge.refusesArgument(FULL, "announceMonsoon(0)", loft -> loft.announceMonsoon(0));
        Edge.refusesArgument(FULL, "announceMonsoon(84)", loft -> loft.announceMonsoon(84));
        // A monsoon that is over was announced all the same.
        Edge.refusesState("loft;monsoon 0;monsoon 0;monsoon 0;hours 200;", "announceMonsoon(50)",
                loft -> loft.announceMonsoon(50));
    }

    private static void promise11TheSameDayCountsAgain() {
        WitheringLoft loft = Check.after("loft;monsoon 4;");
        Check.same("announceMonsoon(4)", loft.announceMonsoon(4), 2);
        Check.same("announceMonsoon(4)", loft.announceMonsoon(4), 3);
        Check.same("humidityAt(263)", loft.humidityAt(263), 95);
        Check.same("humidityAt(264)", loft.humidityAt(264), 60);
    }

    private static void promise12TargetIs500To700AndToleranceIs5To50() {
        Edge.takes(Edge.FIRST, "setTarget at a target", 500, 700, (loft, target) -> loft.setTarget(target, 20));
        Edge.takes(Edge.FIRST, "setTarget at a tolerance", 5, 50, (loft, tolerance) -> loft.setTarget(580, tolerance));
        Edge.refusesArgument(Edge.FIRST, "setTarget(499, 4)", loft -> loft.setTarget(499, 4));
        Edge.accepts(Edge.FIRST, "setTarget(500, 5)", loft -> loft.setTarget(500, 5));
        Edge.accepts(Edge.FIRST, "setTarget(700, 50)", loft -> loft.setTarget(700, 50));
    }

    private static void promise12CountsWhatIsReadyAfterwards() {
        Check.same("setTarget(600, 5) without troughs", Check.after(NO_TROUGH).setTarget(600, 5), 0);
        WitheringLoft empty = Check.after("loft;repeat 8(trough 10;);");
        Check.same("setTarget(600, 5), all empty", empty.setTarget(600, 5), 0);
        for (int trough = 0; trough < 8; trough++) {
            empty.load(trough, 1, 610);
        }
        Check.same("setTarget(605, 5), all at its upper end", empty.setTarget(605, 5), 8);
        Check.same("setTarget(604, 5), all just above", empty.setTarget(604, 5), 0);
        Check.same("setTarget(615, 5), all at its lower end", empty.setTarget(615, 5), 8);
        Check.same("setTarget(616, 5), all just below", empty.setTarget(616, 5), 0);
    }

    private static void promise13TroughExistsAndHasLeaf() {
        Edge.exist("loft;trough 10;trough 10;load 0 1 600;load 1 1 600;", "turnLeaf", 2, WitheringLoft::turnLeaf);
        Edge.exist(NO_TROUGH, "turnLeaf", 0, WitheringLoft::turnLeaf);
        Edge.refusesState(Edge.FIRST, "turnLeaf(2)", loft -> loft.turnLeaf(2));
        Edge.refusesState(Edge.FIRST + "discard 0;", "turnLeaf(0)", loft -> loft.turnLeaf(0));
    }

    private static void promise13TheTopLayerGetsTheRest() {
        // 1*40*60/101 = 23 from the bottom and 11 from the top: 677 and 689
        WitheringLoft even = Check.after("loft;trough 100;load 0 1 700;fan 0 1;hours 1;");
        Check.same("turnLeaf(0) of an even sum", even.turnLeaf(0), 683);
        Check.same("moisture(0, 0)", even.moisture(0, 0), 683);
        // 1*45*60/101 = 26 and 13 more: 651 and 676
        WitheringLoft odd = Check.after("loft;trough 100;load 0 1 700;fan 0 1;hours 1;heat 1;hours 1;");
        Check.same("turnLeaf(0) of an odd sum", odd.turnLeaf(0), 664);
        Check.same("moisture(0, 0)", odd.moisture(0, 0), 663);
        Check.same("turnLeaf(0) again: the top is moister by 1", odd.turnLeaf(0), 664);
        WitheringLoft driest = Check.after("loft;trough 100;load 0 1 700;fan 0 5;hours 20;");
        Check.same("turnLeaf(0) at 300", driest.turnLeaf(0), 300);
        Check.same("moisture(0, 0) at 300", driest.moisture(0, 0), 300);
    }

    private static void promise13TheDamageIncreasesBy2() {
        WitheringLoft loft = Check.after("loft;trough 100;load 0 1 700;repeat 20(turn 0;);repeat 20(turn 0;);"
                + "repeat 10(turn 0;);");
        Check.same("damage(0) after 50 turns", loft.damage(0), 100);
        Check.same("marks(0), not less than 0", loft.marks(0), 0);
        Check.same("warmth(0)", loft.warmth(0), 0);
        Check.same("weight(0), no water is lost", loft.weight(0), 2000);
    }

    private static void promise14TroughExists() {
        Edge.exist("loft;trough 10;trough 10;load 0 1 600;load 1 1 600;", "discharge", 2, WitheringLoft::discharge);
        Edge.exist(NO_TROUGH, "discharge", 0, WitheringLoft::discharge);
    }

    private static void promise14IsRefusedForEachReason() {
        Edge.refusesState(Edge.FIRST, "discharge(2) without leaf", loft -> loft.discharge(2));
        Edge.refusesState(Edge.FIRST + "target 665 24;", "discharge(0), the bottom too dry by 1",
                loft -> loft.discharge(0));
        Edge.refusesState(Edge.FIRST + "target 639 24;", "discharge(0), the top too moist by 1",
                loft -> loft.discharge(0));
        Edge.refusesState(Edge.FIRST + "target 652 11;", "discharge(0), too dry and too moist",
                loft -> loft.discharge(0));
        Edge.refusesState(Edge.FIRST + "reverse 0;hours 2;target 569 5;", "discharge(0), the bottom too moist",
                loft -> loft.discharge(0));
    }

    private static void promise14TakesLeafAtBothEndsOfTheTolerance() {
        Check.same("discharge(0), the bottom at the lower end",
                Check.after(Edge.FIRST + "target 664 24;").discharge(0), 38);
        Check.same("discharge(0), the top at the upper end",
                Check.after(Edge.FIRST + "target 640 24;").discharge(0), 38);
        Check.same("discharge(0), a layer at each end",
                Check.after(Edge.FIRST + "target 652 12;").discharge(0), 38);
    }

    private static void promise14RoundsTheWorthDown() {
        // A turn costs 4 marks.
        Check.same("discharge(0) of 1 kilogram with 100 marks",
                Check.after("loft;trough 10;load 0 1 600;").discharge(0), 1);
        Check.same("discharge(0) of 1 kilogram with 96 marks",
                Check.after("loft;trough 10;load 0 1 600;turn 0;").discharge(0), 0);
        Check.same("discharge(0) of 25 kilograms with 96 marks",
                Check.after("loft;trough 25;load 0 25 600;turn 0;").discharge(0), 24);
        Check.same("discharge(0) of 24 kilograms with 96 marks",
                Check.after("loft;trough 25;load 0 24 600;turn 0;").discharge(0), 23);
        Check.same("discharge(0) of 500 kilograms with 100 marks",
                Check.after("loft;trough 500;load 0 500 600;").discharge(0), 500);
        Check.same("discharge(0) of 500 kilograms with 0 marks",
                Check.after("loft;trough 500;load 0 500 600;repeat 20(turn 0;);repeat 5(turn 0;);").discharge(0), 0);
        Check.same("discharge(0) of 25 kilograms with 4 marks",
                Check.after("loft;trough 500;load 0 25 600;repeat 20(turn 0;);repeat 4(turn 0;);").discharge(0), 1);
    }

    private static void promise14TheTroughIsEmptyThen() {
        WitheringLoft loft = Check.after(Edge.FIRST + "target 664 24;");
        loft.discharge(0);
        Check.same("kilograms(0)", loft.kilograms(0), 0);
        Check.same("moisture(0, 1)", loft.moisture(0, 1), -1);
        Check.same("capacity(0), which stays", loft.capacity(0), 100);
        Check.same("speed(0), which stays", loft.speed(0), 3);
        Check.same("isUpwards(0), which stays", loft.isUpwards(0), false);
        Edge.refusesState(Edge.FIRST + "target 664 24;discharge 0;", "discharge(0) again", empty -> empty.discharge(0));
    }

    private static void promise15TroughExistsAndHasLeaf() {
        Edge.exist("loft;trough 10;trough 10;load 0 1 600;load 1 1 600;", "discard", 2, WitheringLoft::discard);
        Edge.exist(NO_TROUGH, "discard", 0, WitheringLoft::discard);
        Edge.refusesState(Edge.FIRST, "discard(2)", loft -> loft.discard(2));
        Edge.refusesState(Edge.FIRST + "discard 0;", "discard(0) again", loft -> loft.discard(0));
    }

    private static void promise15DiscardsAtAnyTime() {
        Check.same("discard(0), too moist", Check.after(Edge.FIRST).discard(0), 50);
        Check.same("discard(0), ready", Check.after(Edge.FIRST + "target 664 24;").discard(0), 50);
        Check.same("discard(0), too dry", Check.after(Edge.FIRST + "hours 30;").discard(0), 50);
        Check.same("discard(0), the largest", Check.after("loft;trough 500;load 0 500 600;").discard(0), 500);
        Check.same("discard(0), the smallest", Check.after("loft;trough 500;load 0 1 600;").discard(0), 1);
    }

    private static void promise16TroughLayerAndErrorAreInRange() {
        Edge.exist(Edge.FIRST, "addProbe", 3, (loft, trough) -> loft.addProbe(trough, 0, 0));
        Edge.exist(NO_TROUGH, "addProbe", 0, (loft, trough) -> loft.addProbe(trough, 0, 0));
        Edge.takes(Edge.FIRST, "addProbe in a layer", 0, 1, (loft, layer) -> loft.addProbe(2, layer, 0));
        Edge.takes(Edge.FIRST, "addProbe with an error", -50, 50, (loft, error) -> loft.addProbe(0, 1, error));
        Edge.refusesIndex(Edge.FIRST, "addProbe(3, 2, 0)", loft -> loft.addProbe(3, 2, 0));
        Edge.refusesIndex(Edge.FIRST, "addProbe(-1, 0, 51)", loft -> loft.addProbe(-1, 0, 51));
    }

    private static void promise16IsRefusedIfThereAre6Probes() {
        Check.same("addProbe(0, 0, 0), the first", Check.after("loft;trough 10;").addProbe(0, 0, 0), 0);
        Check.same("addProbe(0, 0, 0), the 6th",
                Check.after("loft;trough 10;repeat 5(probe 0 top over 0;);").addProbe(0, 0, 0), 5);
        Edge.refusesState(FULL, "addProbe(0, 0, 0)", loft -> loft.addProbe(0, 0, 0));
        Edge.refusesState(FULL, "addProbe(7, 1, -50)", loft -> loft.addProbe(7, 1, -50));
        Edge.refusesArgument(FULL, "addProbe(0, 2, 0)", loft -> loft.addProbe(0, 2, 0));
        Edge.refusesArgument(FULL, "addProbe(0, 0, 51)", loft -> loft.addProbe(0, 0, 51));
        Edge.refusesIndex(FULL, "addProbe(8, 0, 0)", loft -> loft.addProbe(8, 0, 0));
    }

    private static void promise17ProbeTroughAndLayerExist() {
        Edge.exist(Edge.FIRST, "moveProbe of a probe", 2, (loft, probe) -> loft.moveProbe(probe, 2, 1));
        Edge.exist(Edge.FIRST, "moveProbe to a trough", 3, (loft, trough) -> loft.moveProbe(0, trough, 0));
        Edge.exist(FULL, "moveProbe of a probe", 6, (loft, probe) -> loft.moveProbe(probe, 7, 1));
        Edge.exist("loft;trough 10;", "moveProbe of a probe", 0, (loft, probe) -> loft.moveProbe(probe, 0, 0));
        Edge.takes(Edge.FIRST, "moveProbe to a layer", 0, 1, (loft, layer) -> loft.moveProbe(0, 1, layer));
        Edge.refusesIndex(Edge.FIRST, "moveProbe(2, 0, 2)", loft -> loft.moveProbe(2, 0, 2));
        Edge.refusesIndex(Edge.FIRST, "moveProbe(0, 3, 2)", loft -> loft.moveProbe(0, 3, 2));
        Edge.refusesIndex(Edge.FIRST, "moveProbe(-1, -1, -1)", loft -> loft.moveProbe(-1, -1, -1));
    }

    private static void promise17ToTheSamePlace() {
        WitheringLoft loft = new WitheringLoft();
        Check.same("moveProbe(0, 0, 1), where it is", loft.moveProbe(0, 0, 1), 0);
        Check.same("reading(0), with its error", loft.reading(0), 674);
        Check.same("moveProbe(1, 1, 1), to the other layer", loft.moveProbe(1, 1, 1), 1);
        Check.same("reading(1), with its error", loft.reading(1), 703);
        Check.same("undoCount()", loft.undoCount(), 2);
    }

    private static void promise18ProbeExistsAndItsErrorIs0Afterwards() {
        Edge.exist(Edge.FIRST, "calibrate", 2, WitheringLoft::calibrate);
        Edge.exist("loft;trough 10;", "calibrate", 0, WitheringLoft::calibrate);
        Edge.exist(FULL, "calibrate", 6, WitheringLoft::calibrate);
        WitheringLoft loft = Check.after("loft;trough 10;probe 0 top over 50;probe 0 top under 50;load 0 1 600;");
        Check.same("calibrate(0)", loft.calibrate(0), 50);
        Check.same("calibrate(1)", loft.calibrate(1), -50);
        Check.same("calibrate(1) again", loft.calibrate(1), 0);
        Check.same("reading(0)", loft.reading(0), 600);
        Check.same("reading(1)", loft.reading(1), 600);
    }

    private static void promise19HoursAre1To200() {
        Edge.takes(Edge.FIRST, "passHours", 1, 200, WitheringLoft::passHours);
        Edge.refusesArgument(Edge.FIRST, "passHours(-1)", loft -> loft.passHours(-1));
    }

    private static void promise19TheHourIs2000AtMost() {
        String full = "loft;trough 10;load 0 5 900;fan 0 1;repeat 9(hours 200;);";
        Check.same("passHours(200) at 1800", Check.after(full).passHours(200), 2000);
        Edge.refusesState(full + "hours 1;", "passHours(200) at 1801", loft -> loft.passHours(200));
        Check.same("passHours(199) at 1801", Check.after(full + "hours 1;").passHours(199), 2000);
        Check.same("passHours(1) at 1999", Check.after(full + "hours 199;").passHours(1), 2000);
        Edge.refusesState(full + "hours 199;", "passHours(2) at 1999", loft -> loft.passHours(2));
        Edge.refusesState(full + "hours 200;", "passHours(1) at 2000", loft -> loft.passHours(1));
        Edge.refusesArgument(full + "hours 200;", "passHours(201) at 2000", loft -> loft.passHours(201));
        Edge.refusesArgument(full + "hours 200;", "passHours(0) at 2000", loft -> loft.passHours(0));
    }
}
