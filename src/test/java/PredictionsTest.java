/** Promises 52 to 56. Each is also compared with hours that really pass, and are undone. */
public final class PredictionsTest {
    private static final String[] SCRIPTS = {
        "loft;trough 100;load 0 50 760;fan 0 3;monsoon 1;",
        "loft;trough 100;load 0 100 900;fan 0 5;reverse 0;humidity 95;",
        "loft;trough 100;load 0 1 620;heat 5;humidity 20;",
        "loft;trough 100;load 0 70 800;hours 14;fan 0 1;hours 7;monsoon 2;heat 2;",
        "loft;trough 500;load 0 333 820;fan 0 2;humidity 94;hours 9;reverse 0;hours 30;target 650 50;",
        "loft;trough 10;load 0 10 610;humidity 95;fan 0 1;target 597 12;",
        "loft;trough 10;load 0 10 640;fan 0 4;hours 200;",
        "loft;trough 100;load 0 95 880;fan 0 4;hours 5;fan 0 2;reverse 0;monsoon 0;heat 3;target 700 50;",
    };

    public static void main(String[] args) {
        promise52MoistureAfter();
        promise53HoursToReady();
        promise54HoursToDamage();
        promise55BestReversal();
        promise56SlowestSpeed();
        for (String script : SCRIPTS) {
            tellWhatComes(script);
            tellTheBestReversal(script);
            tellTheSlowestSpeed(script);
        }
        goOnBehindTheLastHour();
        Check.end();
    }

    private static void promise52MoistureAfter() {
        WitheringLoft loft = new WitheringLoft();
        Check.throwsIndex("moistureAfter(3, 2, 201)", () -> loft.moistureAfter(3, 2, 201));
        Check.throwsIndex("moistureAfter(-1, 0, 0)", () -> loft.moistureAfter(-1, 0, 0));
        Check.throwsArgument("moistureAfter(0, 2, 0)", () -> loft.moistureAfter(0, 2, 0));
        Check.throwsArgument("moistureAfter(0, -1, 0)", () -> loft.moistureAfter(0, -1, 0));
        Check.throwsArgument("moistureAfter(0, 0, -1)", () -> loft.moistureAfter(0, 0, -1));
        Check.throwsArgument("moistureAfter(0, 0, 201)", () -> loft.moistureAfter(0, 0, 201));
        Check.throwsArgument("moistureAfter(2, 2, 1), empty", () -> loft.moistureAfter(2, 2, 1));
        Check.throwsArgument("moistureAfter(2, 0, 201), empty", () -> loft.moistureAfter(2, 0, 201));
        Check.same("moistureAfter(2, 0, 1), empty", loft.moistureAfter(2, 0, 1), -1);
        Check.same("moistureAfter(0, 0, 0)", loft.moistureAfter(0, 0, 0), 640);
        Check.same("moistureAfter(0, 0, 2)", loft.moistureAfter(0, 0, 2), 592);
        Check.same("moistureAfter(0, 1, 2)", loft.moistureAfter(0, 1, 2), 568);
        Check.same("moistureAfter(0, 1, 200)", loft.moistureAfter(0, 1, 200), 300);
        Check.same("moisture(0, 1), which stays", loft.moisture(0, 1), 664);
        Check.same("hour(), which stays", loft.hour(), 3);
        Check.same("lostWater(), which stays", loft.lostWater(), 54000);
        Check.same("undoCount()", loft.undoCount(), 0);
    }

    private static void promise53HoursToReady() {
        WitheringLoft loft = new WitheringLoft();
        Check.throwsIndex("hoursToReady(3)", () -> loft.hoursToReady(3));
        Check.throwsIndex("hoursToReady(-1)", () -> loft.hoursToReady(-1));
        Check.same("hoursToReady(0)", loft.hoursToReady(0), 2);
        Check.same("hoursToReady(1)", loft.hoursToReady(1), -1);
        Check.same("hoursToReady(2)", loft.hoursToReady(2), -1);
        loft.setTarget(664, 24);
        Check.same("hoursToReady(0), now", loft.hoursToReady(0), 0);
        // 1*40*60/(100+50) = 16 in the hour before the monsoon, then 2 from the bottom and 1 from the top
        WitheringLoft edge = Check.after("loft;trough 100;monsoon 1;hours 23;load 0 50 620;fan 0 1;");
        Check.same("hoursToReady(0), the top at 600 in the monsoon", edge.hoursToReady(0), 13);
        // 1*5*60/(100+50) = 2 from the bottom and 1 from the top
        WitheringLoft slow = Check.after("loft;trough 100;load 0 50 800;humidity 95;fan 0 1;target 500 50;");
        Check.same("hoursToReady(0), the top at 550 after 250 hours", slow.hoursToReady(0), -1);
        slow.setTarget(550, 50);
        Check.same("hoursToReady(0), the top at 600 after 200 hours, the bottom drier", slow.hoursToReady(0), -1);
        // 1*5*60/(100+100) = 1 from the layer that the air enters, and half of it, rounded down, is 0
        String gentle = "loft;trough 10;load 0 10 900;humidity 95;fan 0 1;";
        WitheringLoft late = Check.after(gentle + "hours 100;reverse 0;target 700 50;");
        Check.same("the report", Check.report(late), "1d800/900");
        Check.same("hoursToReady(0), the bottom is never at 750", late.hoursToReady(0), -1);
        late.reverse(0);
        late.passHours(50);
        late.reverse(0);
        Check.same("hoursToReady(0), the top from 900 to 750", late.hoursToReady(0), 150);
        WitheringLoft latest = Check.after(gentle + "hours 200;reverse 0;target 650 50;");
        Check.same("hoursToReady(0), the top from 900 to 700", latest.hoursToReady(0), 200);
        latest.setTarget(651, 49);
        Check.same("hoursToReady(0), to 700 in another way", latest.hoursToReady(0), 200);
        latest.setTarget(650, 49);
        Check.same("hoursToReady(0), to 699", latest.hoursToReady(0), -1);
    }

    private static void promise54HoursToDamage() {
        WitheringLoft loft = new WitheringLoft();
        Check.throwsIndex("hoursToDamage(3)", () -> loft.hoursToDamage(3));
        Check.throwsIndex("hoursToDamage(-1)", () -> loft.hoursToDamage(-1));
        Check.same("hoursToDamage(0)", loft.hoursToDamage(0), -1);
        Check.same("hoursToDamage(2)", loft.hoursToDamage(2), -1);
        loft.setFan(0, 0);
        Check.same("hoursToDamage(0), no wind", loft.hoursToDamage(0), 10);
        loft.passHours(4);
        Check.same("hoursToDamage(0), warmth 4", loft.hoursToDamage(0), 6);
        loft.passHours(10);
        Check.same("hoursToDamage(0), warmth 14 and damage 5", loft.hoursToDamage(0), 1);
        loft.setFan(0, 4);
        Check.same("hoursToDamage(0), warmth 10 after an hour", loft.hoursToDamage(0), 1);
        loft.setFan(0, 5);
        Check.same("hoursToDamage(0), warmth 9 after an hour", loft.hoursToDamage(0), -1);
    }

    private static void promise55BestReversal() {
        WitheringLoft loft = new WitheringLoft();
        Check.throwsIndex("bestReversal(3, 0)", () -> loft.bestReversal(3, 0));
        Check.throwsIndex("bestReversal(-1, 1)", () -> loft.bestReversal(-1, 1));
        Check.throwsArgument("bestReversal(0, 0)", () -> loft.bestReversal(0, 0));
        Check.throwsArgument("bestReversal(0, 101)", () -> loft.bestReversal(0, 101));
        Check.throwsArgument("bestReversal(2, 101), empty", () -> loft.bestReversal(2, 101));
        Check.same("bestReversal(2, 1), empty", loft.bestReversal(2, 1), -1);
        // 640/664 downwards by 48 and 24: equal after one hour
        Check.same("bestReversal(0, 1), not within it", loft.bestReversal(0, 1), 1);
        Check.same("bestReversal(0, 2), 24 either way", loft.bestReversal(0, 2), 1);
        Check.same("bestReversal(0, 3)", loft.bestReversal(0, 3), 2);
        Check.same("bestReversal(0, 100), all end at 300", loft.bestReversal(0, 100), 0);
        Check.same("bestReversal(1, 3), three hours' difference to make up", loft.bestReversal(1, 3), 0);
        loft.setFan(0, 0);
        Check.same("bestReversal(0, 100), no wind", loft.bestReversal(0, 100), 0);
        Check.same("isUpwards(0), which stays", loft.isUpwards(0), false);
    }

    private static void promise56SlowestSpeed() {
        WitheringLoft loft = new WitheringLoft();
        Check.throwsIndex("slowestSpeed(3, 201)", () -> loft.slowestSpeed(3, 201));
        Check.throwsIndex("slowestSpeed(-1, 0)", () -> loft.slowestSpeed(-1, 0));
        Check.throwsArgument("slowestSpeed(0, -1)", () -> loft.slowestSpeed(0, -1));
        Check.throwsArgument("slowestSpeed(0, 201)", () -> loft.slowestSpeed(0, 201));
        Check.throwsArgument("slowestSpeed(2, 201), empty", () -> loft.slowestSpeed(2, 201));
        Check.same("slowestSpeed(2, 5), empty", loft.slowestSpeed(2, 5), -1);
        Check.same("slowestSpeed(0, 0), not ready now", loft.slowestSpeed(0, 0), -1);
        Check.same("slowestSpeed(0, 3)", loft.slowestSpeed(0, 3), 2);
        Check.same("slowestSpeed(0, 1), 600/584", loft.slowestSpeed(0, 1), 5);
        Check.same("slowestSpeed(0, 200)", loft.slowestSpeed(0, 200), -1);
        loft.setTarget(664, 24);
        Check.same("slowestSpeed(0, 0), ready now", loft.slowestSpeed(0, 0), 0);
        Check.same("slowestSpeed(0, 200), ready without wind", loft.slowestSpeed(0, 200), 0);
        Check.same("speed(0), which stays", loft.speed(0), 3);
        // 5*40*60/101 = 118 from the top: 641/582; 4*40*60/101 = 95: 653/605
        WitheringLoft fast = Check.after("loft;trough 100;load 0 1 700;reverse 0;target 612 40;");
        Check.same("slowestSpeed(0, 1)", fast.slowestSpeed(0, 1), 5);
    }

    private static void tellWhatComes(String script) {
        WitheringLoft loft = Check.after(script);
        boolean ready = loft.whyNoDischarge(0) == 0;
        int damage = loft.damage(0);
        int readyAfter = ready ? 0 : -1;
        int damagedAfter = -1;
        for (int hours = 1; hours <= 200; hours++) {
            loft.passHours(hours);
            if (readyAfter == -1 && loft.whyNoDischarge(0) == 0) {
                readyAfter = hours;
            }
            if (damagedAfter == -1 && hours <= 20 && loft.damage(0) > damage) {
                damagedAfter = hours;
            }
            int bottom = loft.moisture(0, 0);
            int top = loft.moisture(0, 1);
            loft.undo();
            Check.same("moistureAfter(0, 0, " + hours + ") of " + script, loft.moistureAfter(0, 0, hours), bottom);
            Check.same("moistureAfter(0, 1, " + hours + ") of " + script, loft.moistureAfter(0, 1, hours), top);
        }
        Check.same("hoursToReady(0) of " + script, loft.hoursToReady(0), readyAfter);
        Check.same("hoursToDamage(0) of " + script, loft.hoursToDamage(0), damagedAfter);
    }

    private static void tellTheBestReversal(String script) {
        WitheringLoft loft = Check.after(script);
        loft.saveSnapshot();
        for (int hours = 1; hours <= 100; hours += hours < 12 ? 1 : 11) {
            int best = -1;
            int smallest = Integer.MAX_VALUE;
            for (int before = 0; before <= hours; before++) {
                if (before > 0) {
                    loft.passHours(before);
                }
                if (before < hours) {
                    loft.reverse(0);
                    loft.passHours(hours - before);
                }
                if (loft.spread(0) < smallest) {
                    smallest = loft.spread(0);
                    best = before;
                }
                loft.restoreSnapshot();
            }
            Check.same("bestReversal(0, " + hours + ") of " + script, loft.bestReversal(0, hours), best);
        }
    }

    private static void tellTheSlowestSpeed(String script) {
        WitheringLoft loft = Check.after(script);
        loft.saveSnapshot();
        for (int hours = 0; hours <= 200; hours++) {
            int slowest = -1;
            for (int speed = 5; speed >= 0; speed--) {
                loft.setFan(0, speed);
                if (hours > 0) {
                    loft.passHours(hours);
                }
                if (loft.whyNoDischarge(0) == 0) {
                    slowest = speed;
                }
                loft.restoreSnapshot();
            }
            Check.same("slowestSpeed(0, " + hours + ") of " + script, loft.slowestSpeed(0, hours), slowest);
        }
    }

    /** The document does not stop predictions at hour 2000: the hours behind it are as humid as any other. */
    private static void goOnBehindTheLastHour() {
        WitheringLoft loft = Check.after("loft;repeat 10(hours 200;);trough 100;load 0 50 760;fan 0 3;");
        Check.same("moistureAfter(0, 0, 3)", loft.moistureAfter(0, 0, 3), 616);
        Check.same("hoursToReady(0)", loft.hoursToReady(0), -1);
        loft.setFan(0, 0);
        Check.same("hoursToDamage(0)", loft.hoursToDamage(0), 10);
    }
}
