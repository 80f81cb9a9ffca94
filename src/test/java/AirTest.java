/** Promises 26 to 31: time and air. */
public final class AirTest {
    public static void main(String[] args) {
        promise26And27HourAndDay();
        promise28HumidityAt();
        promise29Dryness();
        promise30HoursToMonsoon();
        promise31IsMonsoon();
        Check.end();
    }

    private static void promise26And27HourAndDay() {
        WitheringLoft loft = Check.after("loft;");
        Check.same("hour()", loft.hour(), 0);
        Check.same("day()", loft.day(), 0);
        loft.passHours(23);
        Check.same("hour()", loft.hour(), 23);
        Check.same("day()", loft.day(), 0);
        loft.passHours(1);
        Check.same("hour()", loft.hour(), 24);
        Check.same("day()", loft.day(), 1);
        WitheringLoft last = Check.after("loft;repeat 10(hours 200;);");
        Check.same("hour()", last.hour(), 2000);
        Check.same("day()", last.day(), 83);
    }

    private static void promise28HumidityAt() {
        WitheringLoft loft = Check.after("loft;humidity 30;monsoon 2;monsoon 5;monsoon 83;heat 5;");
        Check.throwsArgument("humidityAt(-1)", () -> loft.humidityAt(-1));
        Check.throwsArgument("humidityAt(2001)", () -> loft.humidityAt(2001));
        Check.same("humidityAt(0)", loft.humidityAt(0), 30);
        Check.same("humidityAt(47)", loft.humidityAt(47), 30);
        Check.same("humidityAt(48)", loft.humidityAt(48), 95);
        Check.same("humidityAt(215)", loft.humidityAt(215), 95);
        Check.same("humidityAt(216)", loft.humidityAt(216), 95);
        Check.same("humidityAt(287)", loft.humidityAt(287), 95);
        Check.same("humidityAt(288)", loft.humidityAt(288), 30);
        Check.same("humidityAt(1991)", loft.humidityAt(1991), 30);
        Check.same("humidityAt(1992)", loft.humidityAt(1992), 95);
        Check.same("humidityAt(2000)", loft.humidityAt(2000), 95);
        loft.setHumidity(70);
        loft.passHours(100);
        Check.same("humidityAt(0), as it is now", loft.humidityAt(0), 70);
    }

    private static void promise29Dryness() {
        WitheringLoft loft = new WitheringLoft();
        Check.same("dryness()", loft.dryness(), 40);
        loft.setHeat(5);
        loft.setHumidity(20);
        Check.same("dryness()", loft.dryness(), 105);
        loft.passHours(20);
        Check.same("dryness() at 23", loft.dryness(), 105);
        loft.passHours(1);
        Check.same("dryness() at 24, in the monsoon", loft.dryness(), 30);
        loft.setHeat(0);
        Check.same("dryness()", loft.dryness(), 5);
    }

    private static void promise30HoursToMonsoon() {
        WitheringLoft loft = Check.after("loft;");
        Check.same("hoursToMonsoon()", loft.hoursToMonsoon(), -1);
        loft.announceMonsoon(0);
        Check.same("hoursToMonsoon() as it begins", loft.hoursToMonsoon(), -1);
        loft.announceMonsoon(9);
        Check.same("hoursToMonsoon()", loft.hoursToMonsoon(), 216);
        loft.announceMonsoon(3);
        Check.same("hoursToMonsoon(), the nearest", loft.hoursToMonsoon(), 72);
        loft.passHours(71);
        Check.same("hoursToMonsoon()", loft.hoursToMonsoon(), 1);
        loft.passHours(1);
        Check.same("hoursToMonsoon() in a monsoon", loft.hoursToMonsoon(), 144);
        loft.passHours(144);
        Check.same("hoursToMonsoon()", loft.hoursToMonsoon(), -1);
    }

    private static void promise31IsMonsoon() {
        WitheringLoft loft = new WitheringLoft();
        Check.same("isMonsoon() at 3", loft.isMonsoon(), false);
        loft.passHours(20);
        Check.same("isMonsoon() at 23", loft.isMonsoon(), false);
        loft.passHours(1);
        Check.same("isMonsoon() at 24", loft.isMonsoon(), true);
        loft.passHours(167);
        Check.same("isMonsoon() at 191", loft.isMonsoon(), true);
        loft.passHours(1);
        Check.same("isMonsoon() at 192", loft.isMonsoon(), false);
        loft.setHumidity(95);
        Check.same("isMonsoon() in air as humid", loft.isMonsoon(), false);
    }
}
