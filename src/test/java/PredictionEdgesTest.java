/** Promises 52 to 56: the boundary cases of the predictions. */
public final class PredictionEdgesTest {
    private static final String NO_TROUGH = "loft;";
    /** An hour takes 1 from the layer that the air enters, and nothing from the other one. */
    private static final String GENTLE = "loft;trough 10;load 0 10 900;humidity 95;fan 0 1;";

    public static void main(String[] args) {
        predictionsAskForTroughsThatExist();
        predictionsAreNoneOfAnEmptyTrough();
        predictionsChangeNothing();
        promise52LayerAndHoursAreInRange();
        promise52After0HoursItIsAsNow();
        promise52NoMoistureIsBelow300();
        promise52MonsoonsComeAndGo();
        promise53Is0IfItIsReadyNow();
        promise53TakesTheSmallestNumber();
        promise53MonsoonsComeAndGo();
        promise53EndsAfter200Hours();
        promise53IsNoneIfReadinessIsSkipped();
        promise54IsTheFirstHourWithDamage();
        promise54IsNoneIfThereIsNone();
        promise55HoursAre1To100();
        promise55OfSeveralTheSmallest();
        promise55TheNumberOfHoursIsNoReversal();
        promise55MonsoonsComeAndGo();
        promise56HoursAre0To200();
        promise56TheSmallestSpeed();
        promise56AfterExactlySomeHours();
        Check.end();
    }

    private static void troughExists(String name, Edge.NumberCall call) {
        Edge.exist(Edge.FIRST, name, 3, call);
        Edge.exist(NO_TROUGH, name, 0, call);
    }

    private static void predictionsAskForTroughsThatExist() {
        troughExists("moistureAfter", (loft, trough) -> loft.moistureAfter(trough, 0, 1));
        troughExists("hoursToReady", WitheringLoft::hoursToReady);
        troughExists("hoursToDamage", WitheringLoft::hoursToDamage);
        troughExists("bestReversal", (loft, trough) -> loft.bestReversal(trough, 1));
        troughExists("slowestSpeed", (loft, trough) -> loft.slowestSpeed(trough, 1));
        Edge.refusesIndex(Edge.FIRST, "moistureAfter(3, 2, 201)", loft -> loft.moistureAfter(3, 2, 201));
        Edge.refusesIndex(Edge.FIRST, "bestReversal(3, 0)", loft -> loft.bestReversal(3, 0));
        Edge.refusesIndex(Edge.FIRST, "slowestSpeed(-1, 201)", loft -> loft.slowestSpeed(-1, 201));
    }

    private static void predictionsAreNoneOfAnEmptyTrough() {
        WitheringLoft loft = Check.after(Edge.FIRST + "target 600 50;");
        Check.same("moistureAfter(2, 0, 0)", loft.moistureAfter(2, 0, 0), -1);
        Check.same("moistureAfter(2, 1, 200)", loft.moistureAfter(2, 1, 200), -1);
        Check.same("hoursToReady(2)", loft.hoursToReady(2), -1);
        Check.same("hoursToDamage(2)", loft.hoursToDamage(2), -1);
        Check.same("bestReversal(2, 1)", loft.bestReversal(2, 1), -1);
        Check.same("bestReversal(2, 100)", loft.bestReversal(2, 100), -1);
        Check.same("slowestSpeed(2, 0)", loft.slowestSpeed(2, 0), -1);
        Check.same("slowestSpeed(2, 200)", loft.slowestSpeed(2, 200), -1);
    }

    private static void predictionsChangeNothing() {
        WitheringLoft loft = Check.after(Edge.FIRST);
        String before = Edge.state(loft);
        loft.moistureAfter(0, 0, 200);
        loft.hoursToReady(0);
        loft.hoursToReady(1);
        loft.hoursToDamage(0);
        loft.bestReversal(0, 100);
        loft.slowestSpeed(0, 200);
        Check.same("the loft", Edge.state(loft), before);
        Check.same("undoCount()", loft.undoCount(), 1);
        Check.same("violations()", loft.violations(), 0);
    }

    private static void promise52LayerAndHoursAreInRange() {
        Edge.takes(Edge.FIRST, "moistureAfter of a layer", 0, 1, (loft, layer) -> loft.moistureAfter(0, layer, 5));
        Edge.takes(Edge.FIRST, "moistureAfter some hours", 0, 200, (loft, hours) -> loft.moistureAfter(0, 1, hours));
        Edge.takes(Edge.FIRST, "moistureAfter of a layer without leaf", 0, 1,
                (loft, layer) -> loft.moistureAfter(2, layer, 5));
        Edge.takes(Edge.FIRST, "moistureAfter some hours without leaf", 0, 200,
                (loft, hours) -> loft.moistureAfter(2, 1, hours));
    }

    private static void promise52After0HoursItIsAsNow() {
        WitheringLoft loft = Check.after(Edge.FIRST);
        Check.same("moistureAfter(0, 0, 0)", loft.moistureAfter(0, 0, 0), 640);
        Check.same("moistureAfter(0, 1, 0)", loft.moistureAfter(0, 1, 0), 664);
        Check.same("moistureAfter(0, 0, 1)", loft.moistureAfter(0, 0, 1), 616);
        Check.same("moistureAfter(0, 1, 1)", loft.moistureAfter(0, 1, 1), 616);
        Check.same("moistureAfter(0, 1, 200) without wind",
                Check.after("loft;trough 10;load 0 5 777;").moistureAfter(0, 1, 200), 777);
    }

    private static void promise52NoMoistureIsBelow300() {
        // 100 and 50 an hour
        WitheringLoft loft = Check.after("loft;trough 100;load 0 20 900;fan 0 5;");
        Check.same("moistureAfter(0, 0, 5)", loft.moistureAfter(0, 0, 5), 400);
        Check.same("moistureAfter(0, 0, 6)", loft.moistureAfter(0, 0, 6), 300);
        Check.same("moistureAfter(0, 0, 7)", loft.moistureAfter(0, 0, 7), 300);
        Check.same("moistureAfter(0, 1, 11)", loft.moistureAfter(0, 1, 11), 350);
        Check.same("moistureAfter(0, 1, 12)", loft.moistureAfter(0, 1, 12), 300);
        Check.same("moistureAfter(0, 1, 200)", loft.moistureAfter(0, 1, 200), 300);
        Check.same("moistureAfter(0, 0, 200) of 1 an hour", Check.after(GENTLE).moistureAfter(0, 0, 200), 700);
        Check.same("moistureAfter(0, 1, 200) of 0 an hour", Check.after(GENTLE).moistureAfter(0, 1, 200), 900);
    }

    private static void promise52MonsoonsComeAndGo() {
        // 2*20*60/100 = 24 and 12 an hour, in the monsoon 2*5*60/100 = 6 and 3
        String script = "loft;trough 500;load 0 4 900;humidity 80;monsoon 1;";
        WitheringLoft before = Check.after(script + "hours 22;fan 0 2;");
        Check.same("moistureAfter(0, 0, 1) in hour 22", before.moistureAfter(0, 0, 1), 876);
        Check.same("moistureAfter(0, 0, 2) in hour 22", before.moistureAfter(0, 0, 2), 852);
        Check.same("moistureAfter(0, 0, 3) in hour 22", before.moistureAfter(0, 0, 3), 846);
        WitheringLoft behind = Check.after(script + "hours 190;fan 0 2;");
        Check.same("moistureAfter(0, 1, 2) in hour 190", behind.moistureAfter(0, 1, 2), 894);
        Check.same("moistureAfter(0, 1, 3) in hour 190", behind.moistureAfter(0, 1, 3), 882);
    }

    private static void promise53Is0IfItIsReadyNow() {
        Check.same("hoursToReady(0) at the lower end", Check.after(Edge.FIRST + "target 664 24;").hoursToReady(0), 0);
        Check.same("hoursToReady(0) at the upper end", Check.after(Edge.FIRST + "target 640 24;").hoursToReady(0), 0);
        Check.same("hoursToReady(0), an hour from the upper end",
                Check.after(Edge.FIRST + "target 639 24;").hoursToReady(0), 1);
        Check.same("hoursToReady(0), too dry already", Check.after(Edge.FIRST + "target 665 24;").hoursToReady(0), -1);
        Check.same("hoursToReady(0) without wind", Check.after("loft;trough 10;load 0 1 600;").hoursToReady(0), 0);
        Check.same("hoursToReady(0) without wind, too moist",
                Check.after("loft;trough 10;load 0 1 601;").hoursToReady(0), -1);
    }

    private static void promise53TakesTheSmallestNumber() {
        // 616/616, 592/568, 568/520
        Check.same("hoursToReady(0), ready after 1 and 2 hours",
                Check.after(Edge.FIRST + "target 598 30;").hoursToReady(0), 1);
        Check.same("hoursToReady(0), ready after 2 and 3 hours",
                Check.after(Edge.FIRST + "target 560 50;").hoursToReady(0), 2);
        Check.same("hoursToReady(0), ready after 3 hours",
                Check.after(Edge.FIRST + "target 540 30;").hoursToReady(0), 3);
    }

    private static void promise53MonsoonsComeAndGo() {
        // 2*20*60/100 = 24 and 12 an hour, in the monsoon 2*5*60/100 = 6 and 3
        String script = "loft;trough 500;load 0 4 700;humidity 80;monsoon 1;target 650 10;hours 23;fan 0 2;";
        // 676/688, 670/685, ..: the top is below 660 after 10 hours more, but then the bottom is at 616.
        Check.same("hoursToReady(0), never", Check.after(script).hoursToReady(0), -1);
        // 676/688, 670/685, .. 664/682: 3 hours, where 2 would be enough without the monsoon
        Check.same("hoursToReady(0)", Check.after(script + "target 667 15;").hoursToReady(0), 3);
    }

    private static void promise53EndsAfter200Hours() {
        String script = GENTLE + "hours 200;reverse 0;";
        Check.same("hoursToReady(0) after 200 hours", Check.after(script + "target 650 50;").hoursToReady(0), 200);
        Check.same("hoursToReady(0) after 199 hours", Check.after(script + "target 651 50;").hoursToReady(0), 199);
        Check.same("hoursToReady(0) after 201 hours", Check.after(script + "target 650 49;").hoursToReady(0), -1);
    }

    private static void promise53IsNoneIfReadinessIsSkipped() {
        // 5*105*60/100 = 315 and 157: from 900/900 to 585/743 and 300/586
        Check.same("hoursToReady(0)",
                Check.after("loft;trough 500;load 0 4 900;fan 0 5;heat 5;humidity 20;target 600 50;").hoursToReady(0),
                -1);
    }

    private static void promise54IsTheFirstHourWithDamage() {
        String leaf = "loft;trough 10;load 0 5 900;";
        Check.same("hoursToDamage(0) at the warmth 0", Check.after(leaf).hoursToDamage(0), 10);
        Check.same("hoursToDamage(0) at the warmth 1", Check.after(leaf + "hours 1;").hoursToDamage(0), 9);
        Check.same("hoursToDamage(0) at the warmth 9", Check.after(leaf + "hours 9;").hoursToDamage(0), 1);
        Check.same("hoursToDamage(0) at the warmth 10", Check.after(leaf + "hours 10;").hoursToDamage(0), 1);
        Check.same("hoursToDamage(0) at the warmth 20", Check.after(leaf + "hours 99;").hoursToDamage(0), 1);
        Check.same("hoursToDamage(0), 15 less by 5", Check.after(leaf + "hours 15;fan 0 5;").hoursToDamage(0), 1);
        Check.same("hoursToDamage(0), damaged by turning before", Check.after(leaf + "turn 0;").hoursToDamage(0), 10);
    }

    private static void promise54IsNoneIfThereIsNone() {
        String leaf = "loft;trough 10;load 0 5 900;";
        Check.same("hoursToDamage(0) with wind", Check.after(leaf + "fan 0 1;").hoursToDamage(0), -1);
        Check.same("hoursToDamage(0), 10 less by 1", Check.after(leaf + "hours 10;fan 0 1;").hoursToDamage(0), -1);
        Check.same("hoursToDamage(0), 14 less by 5", Check.after(leaf + "hours 14;fan 0 5;").hoursToDamage(0), -1);
    }

    private static void promise55HoursAre1To100() {
        Edge.takes(Edge.FIRST, "bestReversal", 1, 100, (loft, hours) -> loft.bestReversal(0, hours));
        Edge.takes(Edge.FIRST, "bestReversal without leaf", 1, 100, (loft, hours) -> loft.bestReversal(2, hours));
    }

    private static void promise55OfSeveralTheSmallest() {
        String still = "loft;trough 10;load 0 5 900;";
        Check.same("bestReversal(0, 1) without wind", Check.after(still).bestReversal(0, 1), 0);
        Check.same("bestReversal(0, 100) without wind", Check.after(still).bestReversal(0, 100), 0);
        Check.same("bestReversal(0, 100), all at 300 in the end", Check.after(Edge.FIRST).bestReversal(0, 100), 0);
        // From equal layers, reversed or not, one hour makes the same spread.
        Check.same("bestReversal(0, 1) of equal layers",
                Check.after("loft;trough 500;load 0 4 900;fan 0 1;").bestReversal(0, 1), 0);
        // 12 more to one side in each of 3 hours: a spread of 12 with 1 or 2 hours before
        Check.same("bestReversal(0, 3) of equal layers",
                Check.after("loft;trough 500;load 0 4 900;fan 0 1;").bestReversal(0, 3), 1);
        Check.same("bestReversal(0, 2) of equal layers",
                Check.after("loft;trough 500;load 0 4 900;fan 0 1;").bestReversal(0, 2), 1);
        Check.same("bestReversal(0, 100) of equal layers that lose 1 an hour", Check.after(GENTLE).bestReversal(0, 100),
                50);
    }

    private static void promise55TheNumberOfHoursIsNoReversal() {
        // The bottom is drier by 5, and the air enters at the top: 5 hours make them equal.
        String script = GENTLE + "hours 5;reverse 0;";
        Check.same("bestReversal(0, 1)", Check.after(script).bestReversal(0, 1), 1);
        Check.same("bestReversal(0, 5)", Check.after(script).bestReversal(0, 5), 5);
        Check.same("bestReversal(0, 6), 1 either way", Check.after(script).bestReversal(0, 6), 5);
        Check.same("bestReversal(0, 7)", Check.after(script).bestReversal(0, 7), 6);
        // The air goes on to enter the drier layer: only the reversal at once helps.
        String away = GENTLE + "hours 5;";
        Check.same("bestReversal(0, 5)", Check.after(away).bestReversal(0, 5), 0);
        String far = GENTLE + "hours 120;reverse 0;";
        Check.same("bestReversal(0, 100), never", Check.after(far).bestReversal(0, 100), 100);
    }

    private static void promise55MonsoonsComeAndGo() {
        // 24 and 12 in the first of 3 hours, then 6 and 3 in the monsoon
        String script = "loft;trough 500;load 0 4 900;humidity 80;monsoon 1;hours 23;fan 0 2;";
        // Reversed at once the spread is 12 + 3 + 3, after one hour 12 - 3 - 3
        Check.same("bestReversal(0, 3)", Check.after(script).bestReversal(0, 3), 1);
        // 12 - 3 - 3 - 3 - 3 after an hour; each hour more before it makes 6 more
        Check.same("bestReversal(0, 5)", Check.after(script).bestReversal(0, 5), 1);
        // 3, 3 and 3 in the last hours of the monsoon and then 12 the other way
        String end = "loft;trough 500;load 0 4 900;humidity 80;monsoon 1;hours 189;fan 0 2;";
        Check.same("bestReversal(0, 4) at its end", Check.after(end).bestReversal(0, 4), 3);
    }

    private static void promise56HoursAre0To200() {
        Edge.takes(Edge.FIRST, "slowestSpeed", 0, 200, (loft, hours) -> loft.slowestSpeed(0, hours));
        Edge.takes(Edge.FIRST, "slowestSpeed without leaf", 0, 200, (loft, hours) -> loft.slowestSpeed(2, hours));
    }

    private static void promise56TheSmallestSpeed() {
        // 1, 2, .. 5 times 2400/100 = 24, 48, 72, 96, 120 from the bottom of 700/700, half of it from the top
        String script = "loft;trough 500;load 0 4 700;target ";
        Check.same("slowestSpeed(0, 1) of 0: 700/700", Check.after(script + "700 5;").slowestSpeed(0, 1), 0);
        Check.same("slowestSpeed(0, 1) of 1: 676/688", Check.after(script + "682 6;").slowestSpeed(0, 1), 1);
        Check.same("slowestSpeed(0, 1) of 5: 580/640", Check.after(script + "610 30;").slowestSpeed(0, 1), 5);
        Check.same("slowestSpeed(0, 1) of more than 5", Check.after(script + "604 35;").slowestSpeed(0, 1), -1);
        Check.same("slowestSpeed(0, 1), each is ready", Check.after(script + "650 50;").slowestSpeed(0, 1), 0);
        // Its own speed does not count, and its direction stays.
        Check.same("slowestSpeed(0, 1) of a fan with the speed 5",
                Check.after(script + "682 6;fan 0 5;reverse 0;").slowestSpeed(0, 1), 1);
    }

    private static void promise56AfterExactlySomeHours() {
        String ready = "loft;trough 500;load 0 4 600;";
        Check.same("slowestSpeed(0, 0), ready now", Check.after(ready + "fan 0 5;").slowestSpeed(0, 0), 0);
        Check.same("slowestSpeed(0, 200), ready without wind", Check.after(ready + "fan 0 5;").slowestSpeed(0, 200), 0);
        Check.same("slowestSpeed(0, 0), not ready now",
                Check.after("loft;trough 500;load 0 4 700;").slowestSpeed(0, 0), -1);
        // 24 and 12 an hour: 676/688, 652/676, 628/664; ready in between is not enough.
        String twice = "loft;trough 500;load 0 4 700;target 664 12;";
        Check.same("slowestSpeed(0, 2)", Check.after(twice).slowestSpeed(0, 2), 1);
        Check.same("slowestSpeed(0, 3)", Check.after(twice).slowestSpeed(0, 3), -1);
        // 900/700, and an hour takes 1 from the bottom
        String late = GENTLE + "reverse 0;hours 200;reverse 0;target 650 50;";
        Check.same("slowestSpeed(0, 200) to 700", Check.after(late).slowestSpeed(0, 200), 1);
        Check.same("slowestSpeed(0, 199) to 701", Check.after(late).slowestSpeed(0, 199), -1);
    }
}
