/** "Terms" and promises 26 to 31: the boundary cases of time, air, hours that pass, ready leaf and probes. */
public final class TermEdgesTest {
    private static final String LAST_HOUR = "loft;repeat 10(hours 200;);";

    public static void main(String[] args) {
        theHourIs0AtFirstAnd2000AtMost();
        theDayIsRoundedDown();
        theSettingsAreAsAtFirst();
        aMonsoonLastsFor7DaysFromItsFirstDay();
        monsoonsMayOverlapAndTouch();
        theHumidityIsAskedForHours0To2000();
        theDrynessIsThatOfThePresentHour();
        aMonsoonThatBeginsNowHasBegun();
        theNearestMonsoonCounts();
        thePresentHourIsInAMonsoonOrNot();
        theLossIsRoundedDown();
        halfOfTheLossIsRoundedDown();
        theAirEntersTheLayerOfTheDirection();
        noMoistureFallsBelow300();
        theWaterIsWhatTheMoisturesReallyLose();
        noWarmthFallsBelow0();
        noWarmthRisesAbove20();
        theDamageIncreasesAtAWarmthOf10();
        theDamageComesBehindTheWarmth();
        anEmptyTroughStaysAsItIs();
        theHourThatBeginsIsAsDryAsItIs();
        leafIsReadyAtTheEndsOfTheTolerance();
        tooDryGoesBeforeTooMoist();
        theMarksAreNotLessThan0();
        theErrorGrowsAtEachMultipleOf24();
        theErrorGrowsTo50();
        theErrorGrowsInAnEmptyTroughToo();
        Check.end();
    }

    private static void theHourIs0AtFirstAnd2000AtMost() {
        Check.same("hour() of a loft as at first", Check.after("loft;").hour(), 0);
        Check.same("hour() in the last hour", Check.after(LAST_HOUR).hour(), 2000);
        Edge.refusesState(LAST_HOUR, "passHours(1)", loft -> loft.passHours(1));
    }

    private static void theDayIsRoundedDown() {
        Check.same("day() in hour 0", Check.after("loft;").day(), 0);
        Check.same("day() in hour 23", Check.after("loft;hours 23;").day(), 0);
        Check.same("day() in hour 24", Check.after("loft;hours 24;").day(), 1);
        Check.same("day() in hour 47", Check.after("loft;hours 47;").day(), 1);
        Check.same("day() in hour 48", Check.after("loft;hours 48;").day(), 2);
        Check.same("day() in hour 1991", Check.after("loft;repeat 9(hours 200;);hours 191;").day(), 82);
        Check.same("day() in hour 1992", Check.after("loft;repeat 9(hours 200;);hours 192;").day(), 83);
        Check.same("day() in hour 2000", Check.after(LAST_HOUR).day(), 83);
    }

    private static void theSettingsAreAsAtFirst() {
        WitheringLoft loft = Check.after("loft;trough 10;");
        Check.same("setHumidity(60)", loft.setHumidity(60), 60);
        Check.same("setHeat(0)", loft.setHeat(0), 0);
        Check.same("setFan(0, 0)", loft.setFan(0, 0), 0);
        Check.same("isUpwards(0)", loft.isUpwards(0), true);
        Check.same("hoursToMonsoon()", loft.hoursToMonsoon(), -1);
        loft.load(0, 1, 600);
        Check.same("whyNoDischarge(0) at 600, the target 580 and the tolerance 20", loft.whyNoDischarge(0), 0);
        loft.discard(0);
        loft.load(0, 1, 601);
        Check.same("whyNoDischarge(0) at 601", loft.whyNoDischarge(0), WitheringLoft.TOO_MOIST);
        // 1*5*60/110 = 2 from the bottom and 1 from the top an hour
        WitheringLoft dry = Check.after("loft;trough 100;load 0 10 600;humidity 95;fan 0 1;hours 20;");
        Check.same("the bottom layer", dry.moisture(0, 0), 560);
        Check.same("whyNoDischarge(0) at 560", dry.whyNoDischarge(0), 0);
        dry.passHours(1);
        Check.same("whyNoDischarge(0) at 558", dry.whyNoDischarge(0), WitheringLoft.TOO_DRY);
    }

    private static void aMonsoonLastsFor7DaysFromItsFirstDay() {
        WitheringLoft loft = Check.after("loft;monsoon 2;");
        Check.same("humidityAt(47)", loft.humidityAt(47), 60);
        Check.same("humidityAt(48)", loft.humidityAt(48), 95);
        Check.same("humidityAt(215)", loft.humidityAt(215), 95);
        Check.same("humidityAt(216)", loft.humidityAt(216), 60);
        WitheringLoft early = Check.after("loft;monsoon 0;");
        Check.same("humidityAt(0)", early.humidityAt(0), 95);
        Check.same("humidityAt(167)", early.humidityAt(167), 95);
        Check.same("humidityAt(168)", early.humidityAt(168), 60);
        WitheringLoft late = Check.after("loft;monsoon 83;");
        Check.same("humidityAt(1991)", late.humidityAt(1991), 60);
        Check.same("humidityAt(1992)", late.humidityAt(1992), 95);
        Check.same("humidityAt(2000)", late.humidityAt(2000), 95);
        // Announced within its first day, it is one from the beginning of that day.
        WitheringLoft sudden = Check.after("loft;hours 30;");
        sudden.announceMonsoon(1);
        Check.same("humidityAt(23)", sudden.humidityAt(23), 60);
        Check.same("humidityAt(24)", sudden.humidityAt(24), 95);
        Check.same("humidityAt(191)", sudden.humidityAt(191), 95);
        Check.same("humidityAt(192)", sudden.humidityAt(192), 60);
    }

    private static void monsoonsMayOverlapAndTouch() {
        WitheringLoft overlap = Check.after("loft;monsoon 9;monsoon 4;");
        Check.same("humidityAt(95)", overlap.humidityAt(95), 60);
        Check.same("humidityAt(96)", overlap.humidityAt(96), 95);
        Check.same("humidityAt(383)", overlap.humidityAt(383), 95);
        Check.same("humidityAt(384)", overlap.humidityAt(384), 60);
        WitheringLoft touch = Check.after("loft;monsoon 0;monsoon 7;monsoon 15;");
        Check.same("humidityAt(167)", touch.humidityAt(167), 95);
        Check.same("humidityAt(168)", touch.humidityAt(168), 95);
        Check.same("humidityAt(335)", touch.humidityAt(335), 95);
        Check.same("humidityAt(336), a day between", touch.humidityAt(336), 60);
        Check.same("humidityAt(359)", touch.humidityAt(359), 60);
        Check.same("humidityAt(360)", touch.humidityAt(360), 95);
    }

    private static void theHumidityIsAskedForHours0To2000() {
        Edge.takes("loft;monsoon 0;monsoon 83;", "humidityAt", 0, 2000, WitheringLoft::humidityAt);
        Edge.takes(LAST_HOUR, "humidityAt", 0, 2000, WitheringLoft::humidityAt);
        // The usual humidity of now is that of the hours that have passed too.
        WitheringLoft loft = Check.after("loft;humidity 20;hours 50;humidity 95;monsoon 3;");
        Check.same("humidityAt(0)", loft.humidityAt(0), 95);
        loft.setHumidity(20);
        Check.same("humidityAt(0)", loft.humidityAt(0), 20);
        Check.same("humidityAt(2000)", loft.humidityAt(2000), 20);
        Check.same("humidityAt(72)", loft.humidityAt(72), 95);
    }

    private static void theDrynessIsThatOfThePresentHour() {
        Check.same("dryness() of the most humid air", Check.after("loft;humidity 95;").dryness(), 5);
        Check.same("dryness() of the driest air", Check.after("loft;humidity 20;heat 5;").dryness(), 105);
        Check.same("dryness() before a monsoon", Check.after("loft;humidity 20;monsoon 1;hours 23;").dryness(), 80);
        Check.same("dryness() as it begins", Check.after("loft;humidity 20;monsoon 1;hours 24;").dryness(), 5);
        Check.same("dryness() in its last hour", Check.after("loft;humidity 20;monsoon 1;hours 191;").dryness(), 5);
        Check.same("dryness() behind it", Check.after("loft;humidity 20;monsoon 1;hours 192;").dryness(), 80);
        Check.same("dryness() in a monsoon with heat",
                Check.after("loft;humidity 20;heat 5;monsoon 0;").dryness(), 30);
        Check.same("dryness() in the last hour", Check.after(LAST_HOUR).dryness(), 40);
    }

    private static void aMonsoonThatBeginsNowHasBegun() {
        Check.same("hoursToMonsoon() without one", Check.after("loft;").hoursToMonsoon(), -1);
        Check.same("hoursToMonsoon() before", Check.after("loft;monsoon 1;").hoursToMonsoon(), 24);
        Check.same("hoursToMonsoon() just before", Check.after("loft;monsoon 1;hours 23;").hoursToMonsoon(), 1);
        Check.same("hoursToMonsoon() as it begins", Check.after("loft;monsoon 1;hours 24;").hoursToMonsoon(), -1);
        Check.same("hoursToMonsoon() within", Check.after("loft;monsoon 1;hours 30;").hoursToMonsoon(), -1);
        Check.same("hoursToMonsoon() behind", Check.after("loft;monsoon 1;hours 200;").hoursToMonsoon(), -1);
        Check.same("hoursToMonsoon() of today's", Check.after("loft;hours 30;monsoon 1;").hoursToMonsoon(), -1);
        Check.same("hoursToMonsoon() of the last day", Check.after("loft;monsoon 83;").hoursToMonsoon(), 1992);
    }

    private static void theNearestMonsoonCounts() {
        Check.same("hoursToMonsoon() of 9, 2 and 5",
                Check.after("loft;monsoon 9;monsoon 2;monsoon 5;").hoursToMonsoon(), 48);
        Check.same("hoursToMonsoon() of 2, 5 and 9",
                Check.after("loft;monsoon 2;monsoon 5;monsoon 9;").hoursToMonsoon(), 48);
        Check.same("hoursToMonsoon() in the one of 2",
                Check.after("loft;monsoon 9;monsoon 2;monsoon 5;hours 48;").hoursToMonsoon(), 72);
        Check.same("hoursToMonsoon() of the same day twice",
                Check.after("loft;monsoon 2;monsoon 2;").hoursToMonsoon(), 48);
    }

    private static void thePresentHourIsInAMonsoonOrNot() {
        Check.same("isMonsoon() without one", Check.after("loft;humidity 95;").isMonsoon(), false);
        Check.same("isMonsoon() before", Check.after("loft;monsoon 1;hours 23;").isMonsoon(), false);
        Check.same("isMonsoon() as it begins", Check.after("loft;monsoon 1;hours 24;").isMonsoon(), true);
        Check.same("isMonsoon() in its last hour", Check.after("loft;monsoon 1;hours 191;").isMonsoon(), true);
        Check.same("isMonsoon() behind it", Check.after("loft;monsoon 1;hours 192;").isMonsoon(), false);
        Check.same("isMonsoon() in hour 0", Check.after("loft;monsoon 0;").isMonsoon(), true);
        Check.same("isMonsoon() in hour 2000",
                Check.after("loft;monsoon 83;repeat 10(hours 200;);").isMonsoon(), true);
    }

    private static void theLossIsRoundedDown() {
        // 40*60 = 2400 by 100 + fill
        Check.same("loss(0), 2400/100", Check.after("loft;trough 500;load 0 4 900;fan 0 1;").loss(0), 24);
        Check.same("loss(0), 2400/101", Check.after("loft;trough 500;load 0 5 900;fan 0 1;").loss(0), 23);
        Check.same("loss(0), 2400/121", Check.after("loft;trough 100;load 0 21 900;fan 0 1;").loss(0), 19);
        Check.same("loss(0), 2400/120", Check.after("loft;trough 100;load 0 20 900;fan 0 1;").loss(0), 20);
        Check.same("loss(0), 2400/200", Check.after("loft;trough 10;load 0 10 900;fan 0 1;").loss(0), 12);
        Check.same("loss(0), the least, 300/200",
                Check.after("loft;trough 10;load 0 10 900;fan 0 1;humidity 95;").loss(0), 1);
        Check.same("loss(0), the greatest, 31500/100",
                Check.after("loft;trough 500;load 0 4 900;fan 0 5;humidity 20;heat 5;").loss(0), 315);
        Check.same("loss(0), 31500/101",
                Check.after("loft;trough 500;load 0 5 900;fan 0 5;humidity 20;heat 5;").loss(0), 311);
        Check.same("loss(0) without wind", Check.after("loft;trough 500;load 0 5 900;").loss(0), 0);
        Check.same("loss(0) without leaf", Check.after("loft;trough 500;fan 0 5;").loss(0), 0);
    }

    private static void halfOfTheLossIsRoundedDown() {
        Check.same("a loss of 23", Check.report(Check.after("loft;trough 500;load 0 5 900;fan 0 1;hours 1;")),
                "1u877/889");
        Check.same("a loss of 24", Check.report(Check.after("loft;trough 500;load 0 4 900;fan 0 1;hours 1;")),
                "1u876/888");
        Check.same("a loss of 1",
                Check.report(Check.after("loft;trough 10;load 0 10 900;fan 0 1;humidity 95;hours 1;")), "1u899/900");
    }

    private static void theAirEntersTheLayerOfTheDirection() {
        Check.same("a loss of 23 upwards",
                Check.report(Check.after("loft;trough 500;load 0 5 900;fan 0 1;hours 1;")), "1u877/889");
        Check.same("a loss of 23 downwards",
                Check.report(Check.after("loft;trough 500;load 0 5 900;fan 0 1;reverse 0;hours 1;")), "1d889/877");
    }

    private static void noMoistureFallsBelow300() {
        // 5*40*60/120 = 100 and 50 an hour
        String script = "loft;trough 100;load 0 20 900;fan 0 5;";
        Check.same("after 5 hours", Check.report(Check.after(script + "hours 5;")), "5u400/650");
        Check.same("after 6 hours, just at 300", Check.report(Check.after(script + "hours 6;")), "5u300/600");
        Check.same("after 7 hours", Check.report(Check.after(script + "hours 7;")), "5u300/550");
        Check.same("after 11 hours", Check.report(Check.after(script + "hours 11;")), "5u300/350");
        Check.same("after 12 hours", Check.report(Check.after(script + "hours 12;")), "5u300/300");
        Check.same("after 13 hours", Check.report(Check.after(script + "hours 13;")), "5u300/300");
        Check.same("downwards after 7 hours", Check.report(Check.after(script + "reverse 0;hours 7;")), "5d550/300");
        // 5*40*60/101 = 118 and 59 an hour: 900, 782, 664, 546, 428, 310, 192
        String cut = "loft;trough 100;load 0 1 900;fan 0 5;";
        Check.same("after 5 hours", Check.report(Check.after(cut + "hours 5;")), "5u310/605");
        Check.same("after 6 hours, cut off at 300", Check.report(Check.after(cut + "hours 6;")), "5u300/546");
        Check.same("after 10 hours", Check.report(Check.after(cut + "hours 10;")), "5u300/310");
        Check.same("after 11 hours, cut off at 300", Check.report(Check.after(cut + "hours 11;")), "5u300/300");
    }

    private static void theWaterIsWhatTheMoisturesReallyLose() {
        WitheringLoft loft = Check.after("loft;trough 100;load 0 2 900;fan 0 5;");
        Check.same("weight(0) as loaded", loft.weight(0), 4000);
        Check.same("lostWater() as loaded", loft.lostWater(), 0);
        // 5*40*60/102 = 117 and 58 an hour: 315/610 after 5, then 300/552
        loft.passHours(5);
        Check.same("lostWater() after 5 hours", loft.lostWater(), 2 * (585 + 290));
        loft.passHours(1);
        Check.same("lostWater(), 15 of the bottom and 58 of the top", loft.lostWater(), 2 * (600 + 348));
        Check.same("weight(0)", loft.weight(0), 4000 - 2 * 948);
        loft.passHours(100);
        Check.same("lostWater(), all above 300", loft.lostWater(), 2400);
        Check.same("weight(0), the least", loft.weight(0), 1600);
        loft.passHours(1);
        Check.same("lostWater(), no more", loft.lostWater(), 2400);
    }

    private static void noWarmthFallsBelow0() {
        String warm = "loft;trough 10;load 0 5 900;hours 5;";
        Check.same("warmth(0) less by 4", Check.after(warm + "fan 0 4;hours 1;").warmth(0), 1);
        Check.same("warmth(0) less by 5", Check.after(warm + "fan 0 5;hours 1;").warmth(0), 0);
        Check.same("warmth(0) less by 4 twice", Check.after(warm + "fan 0 4;hours 2;").warmth(0), 0);
        Check.same("warmth(0) of 0", Check.after("loft;trough 10;load 0 5 900;fan 0 1;hours 1;").warmth(0), 0);
    }

    private static void noWarmthRisesAbove20() {
        Check.same("warmth(0) after 19 hours", Check.after("loft;trough 10;load 0 5 900;hours 19;").warmth(0), 19);
        Check.same("warmth(0) after 20 hours", Check.after("loft;trough 10;load 0 5 900;hours 20;").warmth(0), 20);
        Check.same("warmth(0) after 21 hours", Check.after("loft;trough 10;load 0 5 900;hours 21;").warmth(0), 20);
        Check.same("warmth(0) after 200 hours", Check.after("loft;trough 10;load 0 5 900;hours 200;").warmth(0), 20);
        Check.same("warmth(0) one hour of wind later",
                Check.after("loft;trough 10;load 0 5 900;hours 200;fan 0 1;hours 1;").warmth(0), 19);
    }

    private static void theDamageIncreasesAtAWarmthOf10() {
        Check.same("damage(0) after 9 hours", Check.after("loft;trough 10;load 0 5 900;hours 9;").damage(0), 0);
        Check.same("damage(0) after 10 hours", Check.after("loft;trough 10;load 0 5 900;hours 10;").damage(0), 1);
        Check.same("damage(0) after 11 hours", Check.after("loft;trough 10;load 0 5 900;hours 11;").damage(0), 2);
        Check.same("damage(0) after 200 hours", Check.after("loft;trough 10;load 0 5 900;hours 200;").damage(0), 191);
    }

    private static void theDamageComesBehindTheWarmth() {
        String warm = "loft;trough 10;load 0 5 900;hours 12;";
        Check.same("damage(0) at a warmth of 12", Check.after(warm).damage(0), 3);
        Check.same("damage(0) at 10 by wind", Check.after(warm + "fan 0 2;hours 1;").damage(0), 4);
        Check.same("damage(0) at 9 by wind", Check.after(warm + "fan 0 3;hours 1;").damage(0), 3);
        Check.same("damage(0), which stays", Check.after(warm + "fan 0 3;hours 50;").damage(0), 3);
    }

    private static void anEmptyTroughStaysAsItIs() {
        WitheringLoft loft = Check.after("loft;trough 10;trough 10;fan 1 5;hours 200;load 0 5 900;load 1 5 900;");
        Check.same("warmth(0) of new leaf", loft.warmth(0), 0);
        Check.same("damage(0) of new leaf", loft.damage(0), 0);
        Check.same("moisture(1, 0) of new leaf", loft.moisture(1, 0), 900);
        Check.same("lostWater()", loft.lostWater(), 0);
    }

    /** See NOTES.md: the hour that begins is taken as the present one, before it becomes 1 greater. */
    private static void theHourThatBeginsIsAsDryAsItIs() {
        // 24 and 12 in a usual hour, 3 and 1 in a monsoon
        String script = "loft;trough 500;load 0 4 900;monsoon 1;hours 23;fan 0 1;";
        Check.same("from 23 to 24", Check.report(Check.after(script + "hours 1;")), "1u876/888");
        Check.same("from 24 to 25", Check.report(Check.after(script + "hours 2;")), "1u873/887");
        String end = "loft;trough 500;load 0 4 900;monsoon 1;hours 191;fan 0 1;";
        Check.same("from 191 to 192", Check.report(Check.after(end + "hours 1;")), "1u897/899");
        Check.same("from 192 to 193", Check.report(Check.after(end + "hours 2;")), "1u873/887");
        Check.same("loss(0) in hour 23", Check.after(script).loss(0), 24);
        Check.same("loss(0) in hour 24", Check.after(script + "hours 1;").loss(0), 3);
    }

    private static void leafIsReadyAtTheEndsOfTheTolerance() {
        String leaf = "loft;trough 500;load 0 4 650;fan 0 1;hours 1;";
        Check.same("the leaf", Check.report(Check.after(leaf)), "1u626/638");
        String upward = "loft;trough 500;load 0 4 650;fan 0 1;reverse 0;hours 1;";
        for (String script : new String[] {leaf, upward}) {
            Check.same("the set at the lower end", Check.after(script + "target 646 20;").readyTroughs(), 1);
            Check.same("the set just below it", Check.after(script + "target 647 20;").readyTroughs(), 0);
            Check.same("the reason just below it", Check.after(script + "target 647 20;").whyNoDischarge(0), 2);
            Check.same("the set at the upper end", Check.after(script + "target 618 20;").readyTroughs(), 1);
            Check.same("the set just above it", Check.after(script + "target 617 20;").readyTroughs(), 0);
            Check.same("the reason just above it", Check.after(script + "target 617 20;").whyNoDischarge(0), 3);
            Check.same("the set with a layer at each end", Check.after(script + "target 632 6;").readyTroughs(), 1);
        }
    }

    private static void tooDryGoesBeforeTooMoist() {
        String leaf = "loft;trough 500;load 0 4 650;fan 0 1;hours 1;";
        Check.same("whyNoDischarge(0), both", Check.after(leaf + "target 632 5;").whyNoDischarge(0), 2);
        Check.same("whyNoDischarge(0), both layers too dry",
                Check.after(leaf + "target 700 5;").whyNoDischarge(0), 2);
        Check.same("whyNoDischarge(0), both layers too moist",
                Check.after(leaf + "target 500 5;").whyNoDischarge(0), 3);
        Check.same("whyNoDischarge(0), the trough empty",
                Check.after(leaf + "target 632 5;discard 0;").whyNoDischarge(0), 1);
    }

    private static void theMarksAreNotLessThan0() {
        // 12 more spread an hour
        String leaf = "loft;trough 500;load 0 4 900;fan 0 1;hours 8;";
        Check.same("marks(0), a spread of 96", Check.after(leaf).marks(0), 4);
        // 4 more: 1*5*60/100 = 3 and 1
        Check.same("marks(0), a spread of 98", Check.after(leaf + "humidity 95;hours 1;").marks(0), 2);
        Check.same("marks(0), a spread of 100", Check.after(leaf + "humidity 95;hours 2;").marks(0), 0);
        Check.same("marks(0), a spread of 102", Check.after(leaf + "humidity 95;hours 3;").marks(0), 0);
        Check.same("marks(0) by turning 24 times",
                Check.after("loft;trough 10;load 0 5 900;repeat 12(turn 0;turn 0;);").marks(0), 4);
        Check.same("marks(0) by turning 25 times",
                Check.after("loft;trough 10;load 0 5 900;repeat 12(turn 0;turn 0;);turn 0;").marks(0), 0);
        Check.same("marks(0) by turning 26 times",
                Check.after("loft;trough 10;load 0 5 900;repeat 13(turn 0;turn 0;);").marks(0), 0);
        Check.same("marks(0) by a damage of 49",
                Check.after("loft;trough 10;load 0 5 900;hours 58;").marks(0), 2);
        Check.same("marks(0) by a damage of 50",
                Check.after("loft;trough 10;load 0 5 900;hours 59;").marks(0), 0);
        Check.same("marks(0) by a damage of 51",
                Check.after("loft;trough 10;load 0 5 900;hours 60;").marks(0), 0);
    }

    private static void theErrorGrowsAtEachMultipleOf24() {
        String script = "loft;trough 10;load 0 5 700;probe 0 top over 0;probe 0 bottom under 50;";
        Check.same("reading(0) in hour 0", Check.after(script).reading(0), 700);
        Check.same("reading(0) in hour 23", Check.after(script + "hours 23;").reading(0), 700);
        Check.same("reading(0) in hour 24", Check.after(script + "hours 24;").reading(0), 701);
        Check.same("reading(1) in hour 24", Check.after(script + "hours 24;").reading(1), 651);
        Check.same("reading(0) in hour 25", Check.after(script + "hours 25;").reading(0), 701);
        Check.same("reading(0) in hour 47", Check.after(script + "hours 47;").reading(0), 701);
        Check.same("reading(0) in hour 48", Check.after(script + "hours 24;hours 24;").reading(0), 702);
        Check.same("reading(1) in hour 192", Check.after(script + "hours 192;").reading(1), 658);
    }

    private static void theErrorGrowsTo50() {
        String script = "loft;trough 10;probe 0 top over 49;probe 0 top over 50;probe 0 top under 1;hours 24;";
        Check.same("the error of 49", Check.after(script).calibrate(0), 50);
        Check.same("the error of 50", Check.after(script).calibrate(1), 50);
        Check.same("the error of -1", Check.after(script).calibrate(2), 0);
        Check.same("the error of 49 after two days", Check.after(script + "hours 24;").calibrate(0), 50);
        Check.same("the error of 0 after 49 days",
                Check.after("loft;trough 10;probe 0 top over 0;repeat 7(hours 168;);").calibrate(0), 49);
        Check.same("the error of 0 after 56 days",
                Check.after("loft;trough 10;probe 0 top over 0;repeat 8(hours 168;);").calibrate(0), 50);
    }

    private static void theErrorGrowsInAnEmptyTroughToo() {
        WitheringLoft loft = Check.after("loft;trough 10;repeat 6(probe 0 top over 5;);hours 24;load 0 5 700;");
        for (int probe = 0; probe < 6; probe++) {
            Check.same("reading(" + probe + ")", loft.reading(probe), 706);
        }
    }
}
