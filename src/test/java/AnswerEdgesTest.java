/** Promises 32 to 51 and 57 to 65: the boundary cases of what troughs, probes, accounts and the report tell. */
public final class AnswerEdgesTest {
    private static final String NO_TROUGH = "loft;";
    private static final String EIGHT = "loft;repeat 8(trough 100;);load 0 9 600;load 7 10 600;";
    private static final String SIX_PROBES = "loft;trough 100;repeat 6(probe 0 top over 1;);";

    public static void main(String[] args) {
        promise32CountsFrom0To8();
        promise33CountsFrom0To6();
        promises34To47AskForTroughsThatExist();
        promises34To47AnswerForAnEmptyTrough();
        promise34CapacitiesOf10And500();
        promise35KilogramsOf1And500();
        promise36TheFillIsRoundedDown();
        promise37And38TellOfEachFan();
        promise39LayerIsBottomOrTop();
        promise40TheSpreadHasNoSign();
        promise44TheLossIs0WithoutLeafOrWind();
        promise46TheSetHasABitForEachTrough();
        promise47TheWeightIs2000ForEachKilogram();
        promises48To50AskForProbesThatExist();
        promise48TheReadingIsNoneIfTheTroughIsEmpty();
        promise48TheErrorIsAddedAtItsExtremes();
        promise49And50TellWhereAProbeIs();
        promise51TheMeanIsRoundedDown();
        promise51IsNoneWithoutLeafOrProbe();
        promise57To60Are0AtFirst();
        promise57To60GoOnCounting();
        promise57To60CountTheMostThat512CallsDo();
        promise61Is0IfAllTroughsAreEmpty();
        promise62Is0IfAllTroughsAreEmpty();
        promise63IsAlways0();
        promise64WritesNothingWithoutTroughs();
        promise64WritesSpacesBetweenTroughsOnly();
        promise64WritesTheExtremes();
        promise64MarksReadyLeafOnly();
        promise64ReplacesThePreviousReport();
        promise65IsNoneBesideTheReport();
        Check.end();
    }

    private static void promise32CountsFrom0To8() {
        Check.same("troughCount() of none", Check.after(NO_TROUGH).troughCount(), 0);
        Check.same("troughCount() of one", Check.after("loft;trough 10;").troughCount(), 1);
        Check.same("troughCount() of all", Check.after(EIGHT).troughCount(), 8);
        WitheringLoft loft = Check.after(EIGHT);
        Check.throwsState("addTrough(10), the 9th", () -> loft.addTrough(10));
        Check.same("troughCount() after a refused one", loft.troughCount(), 8);
    }

    private static void promise33CountsFrom0To6() {
        Check.same("probeCount() of none", Check.after(NO_TROUGH).probeCount(), 0);
        Check.same("probeCount() of one", Check.after("loft;trough 10;probe 0 top over 1;").probeCount(), 1);
        Check.same("probeCount() of all", Check.after(SIX_PROBES).probeCount(), 6);
        WitheringLoft loft = Check.after(SIX_PROBES);
        Check.throwsState("addProbe(0, 0, 0), the 7th", () -> loft.addProbe(0, 0, 0));
        Check.same("probeCount() after a refused one", loft.probeCount(), 6);
    }

    private static void troughExists(String name, Edge.NumberCall call) {
        Edge.exist(Edge.FIRST, name, 3, call);
        Edge.exist(NO_TROUGH, name, 0, call);
        Edge.exist(EIGHT, name, 8, call);
        // A trough whose addition was undone exists no more.
        WitheringLoft loft = Check.after(Edge.FIRST);
        loft.addTrough(10);
        loft.undo();
        Check.throwsIndex(name + " of number 3, undone", () -> call.on(loft, 3));
    }

    private static void promises34To47AskForTroughsThatExist() {
        troughExists("capacity", WitheringLoft::capacity);
        troughExists("kilograms", WitheringLoft::kilograms);
        troughExists("fill", WitheringLoft::fill);
        troughExists("speed", WitheringLoft::speed);
        troughExists("isUpwards", (loft, trough) -> loft.isUpwards(trough) ? 1 : 0);
        troughExists("moisture", (loft, trough) -> loft.moisture(trough, 0));
        troughExists("spread", WitheringLoft::spread);
        troughExists("warmth", WitheringLoft::warmth);
        troughExists("damage", WitheringLoft::damage);
        troughExists("marks", WitheringLoft::marks);
        troughExists("loss", WitheringLoft::loss);
        troughExists("whyNoDischarge", WitheringLoft::whyNoDischarge);
        troughExists("weight", WitheringLoft::weight);
        troughExists("meanReading", WitheringLoft::meanReading);
    }

    private static void promises34To47AnswerForAnEmptyTrough() {
        answersForAnEmptyTrough("as added", Check.after("loft;trough 100;fan 0 5;hours 30;"));
        answersForAnEmptyTrough("discarded", Check.after("loft;trough 100;load 0 50 800;hours 30;fan 0 5;discard 0;"));
        answersForAnEmptyTrough("discharged",
                Check.after("loft;trough 100;load 0 50 600;hours 30;fan 0 5;discharge 0;"));
        WitheringLoft undone = Check.after("loft;trough 100;fan 0 5;");
        undone.load(0, 50, 600);
        undone.undo();
        answersForAnEmptyTrough("with its load undone", undone);
    }

    private static void answersForAnEmptyTrough(String how, WitheringLoft loft) {
        Check.same("capacity(0) " + how, loft.capacity(0), 100);
        Check.same("speed(0) " + how, loft.speed(0), 5);
        Check.same("isUpwards(0) " + how, loft.isUpwards(0), true);
        Check.same("kilograms(0) " + how, loft.kilograms(0), 0);
        Check.same("fill(0) " + how, loft.fill(0), 0);
        Check.same("moisture(0, 0) " + how, loft.moisture(0, 0), -1);
        Check.same("moisture(0, 1) " + how, loft.moisture(0, 1), -1);
        Check.same("spread(0) " + how, loft.spread(0), -1);
        Check.same("warmth(0) " + how, loft.warmth(0), -1);
        Check.same("damage(0) " + how, loft.damage(0), -1);
        Check.same("marks(0) " + how, loft.marks(0), -1);
        Check.same("loss(0) " + how, loft.loss(0), 0);
        Check.same("whyNoDischarge(0) " + how, loft.whyNoDischarge(0), WitheringLoft.NO_LEAF);
        Check.same("readyTroughs() " + how, loft.readyTroughs(), 0);
        Check.same("weight(0) " + how, loft.weight(0), 0);
        Check.same("meanReading(0) " + how, loft.meanReading(0), -1);
        Check.same("moistureAfter(0, 0, 0) " + how, loft.moistureAfter(0, 0, 0), -1);
        Check.same("hoursToReady(0) " + how, loft.hoursToReady(0), -1);
        Check.same("hoursToDamage(0) " + how, loft.hoursToDamage(0), -1);
        Check.same("bestReversal(0, 1) " + how, loft.bestReversal(0, 1), -1);
        Check.same("slowestSpeed(0, 0) " + how, loft.slowestSpeed(0, 0), -1);
        Check.same("the report " + how, Check.report(loft), "5u");
    }

    private static void promise34CapacitiesOf10And500() {
        WitheringLoft loft = Check.after("loft;trough 10;trough 500;");
        Check.same("capacity(0)", loft.capacity(0), 10);
        Check.same("capacity(1)", loft.capacity(1), 500);
    }

    private static void promise35KilogramsOf1And500() {
        WitheringLoft loft = Check.after("loft;trough 500;trough 500;load 0 1 600;load 1 500 600;");
        Check.same("kilograms(0)", loft.kilograms(0), 1);
        Check.same("kilograms(1)", loft.kilograms(1), 500);
        Check.same("kilograms(1) as they were loaded", Check.after("loft;trough 10;load 0 9 900;fan 0 5;hours 99;")
                .kilograms(0), 9);
    }

    private static void promise36TheFillIsRoundedDown() {
        Check.same("fill(0) of 4/500", Check.after("loft;trough 500;load 0 4 600;").fill(0), 0);
        Check.same("fill(0) of 5/500", Check.after("loft;trough 500;load 0 5 600;").fill(0), 1);
        Check.same("fill(0) of 9/500", Check.after("loft;trough 500;load 0 9 600;").fill(0), 1);
        Check.same("fill(0) of 499/500", Check.after("loft;trough 500;load 0 499 600;").fill(0), 99);
        Check.same("fill(0) of 500/500", Check.after("loft;trough 500;load 0 500 600;").fill(0), 100);
        Check.same("fill(0) of 10/10", Check.after("loft;trough 10;load 0 10 600;").fill(0), 100);
        Check.same("fill(0) of 2/3", Check.after("loft;trough 30;load 0 20 600;").fill(0), 66);
    }

    private static void promise37And38TellOfEachFan() {
        WitheringLoft loft = Check.after("loft;repeat 8(trough 10;);fan 0 5;fan 7 4;reverse 7;");
        Check.same("speed(0)", loft.speed(0), 5);
        Check.same("speed(1), as at first", loft.speed(1), 0);
        Check.same("speed(7)", loft.speed(7), 4);
        Check.same("isUpwards(0), as at first", loft.isUpwards(0), true);
        Check.same("isUpwards(6), as at first", loft.isUpwards(6), true);
        Check.same("isUpwards(7)", loft.isUpwards(7), false);
    }

    private static void promise39LayerIsBottomOrTop() {
        Edge.takes(Edge.FIRST, "moisture of a layer", 0, 1, (loft, layer) -> loft.moisture(0, layer));
        Edge.takes(Edge.FIRST, "moisture of a layer without leaf", 0, 1, (loft, layer) -> loft.moisture(2, layer));
        Edge.refusesIndex(Edge.FIRST, "moisture(3, 2)", loft -> loft.moisture(3, 2));
        Edge.refusesIndex(Edge.FIRST, "moisture(-1, -1)", loft -> loft.moisture(-1, -1));
        Check.same("moisture(0, 0) of the driest leaf",
                Check.after("loft;trough 10;load 0 10 600;fan 0 5;hours 99;").moisture(0, 0), 300);
        Check.same("moisture(0, 1) of the moistest leaf",
                Check.after("loft;trough 10;load 0 1 900;").moisture(0, 1), 900);
    }

    private static void promise40TheSpreadHasNoSign() {
        Check.same("spread(0) of equal layers", Check.after("loft;trough 10;load 0 1 900;").spread(0), 0);
        Check.same("spread(0), the bottom drier",
                Check.after("loft;trough 500;load 0 4 900;fan 0 1;hours 1;").spread(0), 12);
        Check.same("spread(0), the top drier",
                Check.after("loft;trough 500;load 0 4 900;fan 0 1;reverse 0;hours 1;").spread(0), 12);
        Check.same("spread(0), a layer at 300",
                Check.after("loft;trough 500;load 0 4 900;fan 0 5;hours 5;").spread(0), 300);
    }

    private static void promise44TheLossIs0WithoutLeafOrWind() {
        Check.same("loss(0) without leaf", Check.after("loft;trough 10;fan 0 5;").loss(0), 0);
        Check.same("loss(0) without wind", Check.after("loft;trough 10;load 0 5 900;").loss(0), 0);
        Check.same("loss(0) without either", Check.after("loft;trough 10;").loss(0), 0);
        Check.same("loss(0) with both", Check.after("loft;trough 10;load 0 5 900;fan 0 1;").loss(0), 16);
        Check.same("loss(0) of leaf at 300", Check.after("loft;trough 10;load 0 5 900;fan 0 1;hours 99;").loss(0), 16);
    }

    private static void promise46TheSetHasABitForEachTrough() {
        Check.same("readyTroughs() of none", Check.after(NO_TROUGH).readyTroughs(), 0);
        WitheringLoft loft = Check.after("loft;repeat 8(trough 10;);");
        int set = 0;
        for (int trough = 7; trough >= 0; trough--) {
            loft.load(trough, 1, 600);
            set += 1 << trough;
            Check.same("readyTroughs() with " + trough, loft.readyTroughs(), set);
        }
        Check.same("readyTroughs() of all", loft.readyTroughs(), 255);
        loft.discharge(3);
        Check.same("readyTroughs() without 3", loft.readyTroughs(), 247);
    }

    private static void promise47TheWeightIs2000ForEachKilogram() {
        Check.same("weight(0) of 1", Check.after("loft;trough 500;load 0 1 900;").weight(0), 2000);
        Check.same("weight(0) of 500", Check.after("loft;trough 500;load 0 500 600;").weight(0), 1000000);
        Check.same("weight(0) of 500 at 300",
                Check.after("loft;trough 500;load 0 500 900;fan 0 5;hours 99;").weight(0), 400000);
        Check.same("weight(0) turned", Check.after("loft;trough 500;load 0 500 900;turn 0;").weight(0), 1000000);
    }

    private static void probeExists(String name, Edge.NumberCall call) {
        Edge.exist(Edge.FIRST, name, 2, call);
        Edge.exist(NO_TROUGH, name, 0, call);
        Edge.exist(SIX_PROBES, name, 6, call);
        WitheringLoft loft = Check.after(Edge.FIRST);
        loft.addProbe(0, 0, 0);
        loft.undo();
        Check.throwsIndex(name + " of number 2, undone", () -> call.on(loft, 2));
    }

    private static void promises48To50AskForProbesThatExist() {
        probeExists("reading", WitheringLoft::reading);
        probeExists("probeTrough", WitheringLoft::probeTrough);
        probeExists("probeLayer", WitheringLoft::probeLayer);
    }

    private static void promise48TheReadingIsNoneIfTheTroughIsEmpty() {
        WitheringLoft loft = Check.after(Edge.FIRST);
        loft.discard(0);
        Check.same("reading(0), its trough discarded", loft.reading(0), -1);
        Check.same("reading(1), another trough", loft.reading(1), 631);
        loft.moveProbe(1, 2, 0);
        Check.same("reading(1), moved to an empty trough", loft.reading(1), -1);
        loft.load(2, 1, 700);
        Check.same("reading(1), loaded again", loft.reading(1), 695);
    }

    private static void promise48TheErrorIsAddedAtItsExtremes() {
        String driest = "loft;trough 10;load 0 10 600;fan 0 5;hours 10;";
        Check.same("the least reading", Check.after(driest + "probe 0 top under 50;").reading(0), 250);
        Check.same("the greatest reading",
                Check.after("loft;trough 10;load 0 1 900;probe 0 top over 50;").reading(0), 950);
        Check.same("a reading without an error",
                Check.after("loft;trough 10;load 0 1 900;probe 0 top under 0;").reading(0), 900);
    }

    private static void promise49And50TellWhereAProbeIs() {
        WitheringLoft loft = Check.after("loft;repeat 8(trough 10;);probe 7 bottom over 1;probe 0 top over 1;");
        Check.same("probeTrough(0)", loft.probeTrough(0), 7);
        Check.same("probeLayer(0)", loft.probeLayer(0), WitheringLoft.BOTTOM);
        Check.same("probeTrough(1)", loft.probeTrough(1), 0);
        Check.same("probeLayer(1)", loft.probeLayer(1), WitheringLoft.TOP);
    }

    private static void promise51TheMeanIsRoundedDown() {
        String leaf = "loft;trough 10;trough 10;load 0 1 600;load 1 1 900;probe 1 top over 9;";
        Check.same("meanReading(0) of one", Check.after(leaf + "probe 0 top over 3;").meanReading(0), 603);
        Check.same("meanReading(0) of 1 and 2",
                Check.after(leaf + "probe 0 top over 1;probe 0 top over 2;").meanReading(0), 601);
        Check.same("meanReading(0) of 0, 0 and 2",
                Check.after(leaf + "repeat 2(probe 0 top over 0;);probe 0 bottom over 2;").meanReading(0), 600);
        Check.same("meanReading(0) of 0 and -1",
                Check.after(leaf + "probe 0 top over 0;probe 0 top under 1;").meanReading(0), 599);
        Check.same("meanReading(0) of 0, 0, 0, 0, 0 and 5",
                Check.after("loft;trough 10;load 0 1 600;repeat 5(probe 0 top over 0;);probe 0 top over 5;")
                        .meanReading(0), 600);
        Check.same("meanReading(0) of 0, 0, 0, 0, 0 and 6",
                Check.after("loft;trough 10;load 0 1 600;repeat 5(probe 0 top over 0;);probe 0 top over 6;")
                        .meanReading(0), 601);
    }

    private static void promise51IsNoneWithoutLeafOrProbe() {
        Check.same("meanReading(0) without both", Check.after("loft;trough 10;").meanReading(0), -1);
        Check.same("meanReading(0) without a probe", Check.after("loft;trough 10;load 0 1 600;").meanReading(0), -1);
        Check.same("meanReading(0) without leaf",
                Check.after("loft;trough 10;probe 0 top over 5;").meanReading(0), -1);
        Check.same("meanReading(0), the probe elsewhere",
                Check.after("loft;trough 10;trough 10;load 0 1 600;load 1 1 600;probe 1 top over 5;")
                        .meanReading(0), -1);
    }

    private static void promise57To60Are0AtFirst() {
        WitheringLoft loft = Check.after(NO_TROUGH);
        Check.same("dischargedKilograms()", loft.dischargedKilograms(), 0);
        Check.same("discardedKilograms()", loft.discardedKilograms(), 0);
        Check.same("totalWorth()", loft.totalWorth(), 0);
        Check.same("lostWater()", loft.lostWater(), 0);
        Check.same("dischargedKilograms() of a new loft", new WitheringLoft().dischargedKilograms(), 0);
        Check.same("discardedKilograms() of a new loft", new WitheringLoft().discardedKilograms(), 0);
        Check.same("totalWorth() of a new loft", new WitheringLoft().totalWorth(), 0);
    }

    private static void promise57To60GoOnCounting() {
        WitheringLoft loft = Check.after("loft;trough 500;repeat 20(load 0 500 600;discharge 0;load 0 1 600;turn 0;"
                + "discharge 0;load 0 500 900;discard 0;);");
        Check.same("dischargedKilograms()", loft.dischargedKilograms(), 20 * 501);
        Check.same("discardedKilograms()", loft.discardedKilograms(), 20 * 500);
        // Each worth is rounded down by itself: 500 and 0.
        Check.same("totalWorth()", loft.totalWorth(), 20 * 500);
        Check.same("lostWater()", loft.lostWater(), 0);
        WitheringLoft dry = Check.after("loft;repeat 8(trough 500;);load 0 500 900;load 7 500 900;fan 0 5;fan 7 5;"
                + "hours 99;discard 0;load 0 500 900;hours 99;");
        Check.same("lostWater() of 1500 kilograms from 900 to 300", dry.lostWater(), 1500 * 1200);
        Check.same("violations()", dry.violations(), 0);
    }

    private static void promise57To60CountTheMostThat512CallsDo() {
        WitheringLoft loft = Check.after("loft;trough 500;repeat 20(repeat 4(load 0 500 600;discharge 0;););");
        for (int i = 0; i < 240; i++) {
            loft.load(0, 500, 600);
            loft.discharge(0);
        }
        Check.same("dischargedKilograms()", loft.dischargedKilograms(), 160000);
        Check.same("totalWorth()", loft.totalWorth(), 160000);
        Check.same("violations()", loft.violations(), 0);
    }

    private static void promise61Is0IfAllTroughsAreEmpty() {
        Check.same("meanMoisture() without troughs", Check.after(NO_TROUGH).meanMoisture(), 0.0);
        Check.same("meanMoisture() of empty troughs", Check.after("loft;repeat 8(trough 10;);").meanMoisture(), 0.0);
        Check.same("meanMoisture() after a discard",
                Check.after("loft;trough 10;load 0 1 700;discard 0;").meanMoisture(), 0.0);
        Check.same("meanMoisture() of one", Check.after("loft;trough 10;load 0 1 701;").meanMoisture(), 701.0);
        // 899 and 900
        Check.same("meanMoisture() with a half",
                Check.after("loft;trough 10;load 0 10 900;humidity 95;fan 0 1;hours 1;").meanMoisture(), 899.5);
        Check.same("meanMoisture() of 600, 600 and 601",
                Check.after("loft;repeat 3(trough 10;);load 0 1 600;load 1 1 600;load 2 1 601;").meanMoisture(),
                3602.0 / 6.0);
    }

    private static void promise62Is0IfAllTroughsAreEmpty() {
        Check.same("readyShare() without troughs", Check.after(NO_TROUGH).readyShare(), 0.0f);
        Check.same("readyShare() of empty troughs", Check.after("loft;repeat 8(trough 10;);").readyShare(), 0.0f);
        Check.same("readyShare() after a discard",
                Check.after("loft;trough 10;load 0 1 600;discard 0;").readyShare(), 0.0f);
        Check.same("readyShare() of one that is ready", Check.after("loft;trough 10;load 0 1 600;").readyShare(), 1.0f);
        Check.same("readyShare() of one that is not", Check.after("loft;trough 10;load 0 1 601;").readyShare(), 0.0f);
        Check.same("readyShare() of 1 in 3, an empty one beside",
                Check.after("loft;repeat 4(trough 10;);load 0 1 601;load 1 1 600;load 3 1 601;").readyShare(),
                1.0f / 3.0f);
    }

    private static void promise63IsAlways0() {
        String[] scripts = {
            NO_TROUGH, Edge.FIRST, EIGHT, Edge.FIRST + "hours 200;",
            Edge.FIRST + "turn 0;turn 1;hours 5;discard 0;discard 1;",
            "loft;trough 500;repeat 20(load 0 500 600;discharge 0;load 0 500 900;fan 0 5;hours 9;discard 0;);",
            "loft;trough 10;load 0 10 900;hours 200;fan 0 5;hours 200;",
            "loft;trough 500;load 0 499 600;fan 0 1;hours 1;turn 0;discharge 0;load 0 1 601;hours 3;",
        };
        for (String script : scripts) {
            WitheringLoft loft = Check.after(script);
            Check.same("violations() after " + script, loft.violations(), 0);
            loft.saveSnapshot();
            Check.run(loft, "loft;trough 10;load 0 10 700;fan 0 1;hours 20;discard 0;");
            Check.same("violations() of the next script", loft.violations(), 0);
            loft.undo();
            Check.same("violations() after undo()", loft.violations(), 0);
            loft.restoreSnapshot();
            Check.same("violations() after restoreSnapshot()", loft.violations(), 0);
        }
    }

    private static void promise64WritesNothingWithoutTroughs() {
        WitheringLoft loft = new WitheringLoft();
        Check.same("writeTroughs()", loft.writeTroughs(), 22);
        Check.run(loft, NO_TROUGH);
        Check.same("writeTroughs() without troughs", loft.writeTroughs(), 0);
        Check.same("reportByte(0)", loft.reportByte(0), -1);
    }

    private static void promise64WritesSpacesBetweenTroughsOnly() {
        Check.same("the report of one", Check.report(Check.after("loft;trough 10;")), "0u");
        Check.same("the report of two", Check.report(Check.after("loft;trough 10;trough 10;reverse 1;")), "0u 0d");
        Check.same("the report of eight", Check.report(Check.after("loft;repeat 8(trough 10;);fan 7 5;")),
                "0u 0u 0u 0u 0u 0u 0u 5u");
    }

    private static void promise64WritesTheExtremes() {
        Check.same("the report of the driest leaf",
                Check.report(Check.after("loft;trough 10;load 0 10 900;fan 0 5;reverse 0;hours 99;")), "5d300/300");
        Check.same("the report of the moistest leaf", Check.report(Check.after("loft;trough 10;load 0 10 900;")),
                "0u900/900");
        WitheringLoft longest = Check.after("loft;repeat 8(trough 10;);");
        for (int trough = 0; trough < 8; trough++) {
            longest.load(trough, 10, 600);
        }
        Check.same("writeTroughs() of the longest report", longest.writeTroughs(), 87);
        Check.same("its last byte", longest.reportByte(86), '!');
        Check.same("the byte behind it", longest.reportByte(87), -1);
    }

    private static void promise64MarksReadyLeafOnly() {
        String leaf = "loft;trough 10;load 0 10 ";
        Check.same("the report of ready leaf", Check.report(Check.after(leaf + "600;")), "0u600/600!");
        Check.same("the report of leaf too moist by 1", Check.report(Check.after(leaf + "601;")), "0u601/601");
        Check.same("the report of leaf at the lower end",
                Check.report(Check.after(leaf + "600;target 620 20;")), "0u600/600!");
        Check.same("the report of leaf too dry by 1",
                Check.report(Check.after(leaf + "600;target 621 20;")), "0u600/600");
    }

    private static void promise64ReplacesThePreviousReport() {
        WitheringLoft loft = Check.after(Edge.FIRST);
        Check.same("writeTroughs()", loft.writeTroughs(), 22);
        loft.discard(0);
        Check.same("reportByte(2) of the report before", loft.reportByte(2), '6');
        Check.same("writeTroughs() of a shorter one", loft.writeTroughs(), 15);
        Check.same("reportByte(2)", loft.reportByte(2), ' ');
        Check.same("reportByte(14)", loft.reportByte(14), 'u');
        Check.same("reportByte(15), of the longer one", loft.reportByte(15), -1);
        Check.same("reportByte(21), of the longer one", loft.reportByte(21), -1);
        loft.load(0, 1, 600);
        Check.same("writeTroughs() of a longer one", loft.writeTroughs(), 23);
        Check.same("the report", Check.report(loft), "3d600/600! 4u636/708 0u");
        Check.same("undoCount(), with the script", loft.undoCount(), 3);
    }

    private static void promise65IsNoneBesideTheReport() {
        for (int index : new int[] {Integer.MIN_VALUE, -1, 0, 1, 87, 88, Integer.MAX_VALUE}) {
            Check.same("reportByte(" + index + "), nothing written", new WitheringLoft().reportByte(index), -1);
        }
        WitheringLoft loft = new WitheringLoft();
        loft.writeTroughs();
        for (int index : new int[] {Integer.MIN_VALUE, -2, -1, 22, 23, 88, Integer.MAX_VALUE}) {
            Check.same("reportByte(" + index + ") of 22 bytes", loft.reportByte(index), -1);
        }
        Check.same("reportByte(0), the first", loft.reportByte(0), '3');
        Check.same("reportByte(21), the last", loft.reportByte(21), 'u');
    }
}
