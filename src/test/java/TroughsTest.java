/** Promises 32 to 51: what is asked of troughs and probes. */
public final class TroughsTest {
    private interface Question {
        long of(WitheringLoft loft, int number);
    }

    public static void main(String[] args) {
        promise32And33Counts();
        promise34To38ATrough();
        promise39Moisture();
        promise40To43Leaf();
        promise44Loss();
        promise45And46Ready();
        promise47Weight();
        promise48To50Probes();
        promise51MeanReading();
        Check.end();
    }

    /** The number behind the last one, a negative one and the extreme ones do not exist. */
    private static void existsBelow(String name, int count, WitheringLoft loft, Question question) {
        for (int number : new int[] {count, -1, 8, Integer.MIN_VALUE, Integer.MAX_VALUE}) {
            Check.throwsIndex(name + "(" + number + ")", () -> question.of(loft, number));
        }
        question.of(loft, count - 1);
    }

    private static void promise32And33Counts() {
        WitheringLoft loft = Check.after("loft;");
        Check.same("troughCount()", loft.troughCount(), 0);
        Check.same("probeCount()", loft.probeCount(), 0);
        Check.throwsIndex("capacity(0)", () -> loft.capacity(0));
        Check.throwsIndex("reading(0)", () -> loft.reading(0));
        for (int i = 1; i <= 8; i++) {
            loft.addTrough(10);
            Check.same("troughCount()", loft.troughCount(), i);
        }
        for (int i = 1; i <= 6; i++) {
            loft.addProbe(0, 0, 0);
            Check.same("probeCount()", loft.probeCount(), i);
        }
        existsBelow("capacity", 8, loft, WitheringLoft::capacity);
        existsBelow("probeTrough", 6, loft, WitheringLoft::probeTrough);
    }

    private static void promise34To38ATrough() {
        WitheringLoft loft = new WitheringLoft();
        existsBelow("capacity", 3, loft, WitheringLoft::capacity);
        existsBelow("kilograms", 3, loft, WitheringLoft::kilograms);
        existsBelow("fill", 3, loft, WitheringLoft::fill);
        existsBelow("speed", 3, loft, WitheringLoft::speed);
        existsBelow("isUpwards", 3, loft, (asked, number) -> asked.isUpwards(number) ? 1 : 0);
        Check.same("capacity(2)", loft.capacity(2), 50);
        Check.same("kilograms(1)", loft.kilograms(1), 200);
        Check.same("kilograms(2)", loft.kilograms(2), 0);
        Check.same("fill(0)", loft.fill(0), 50);
        Check.same("fill(2)", loft.fill(2), 0);
        Check.same("speed(0)", loft.speed(0), 3);
        Check.same("isUpwards(0)", loft.isUpwards(0), false);
        Check.same("isUpwards(1)", loft.isUpwards(1), true);
        WitheringLoft rounded = Check.after("loft;trough 30;load 0 29 700;trough 500;load 1 4 700;");
        Check.same("fill(0), 96.7 percent", rounded.fill(0), 96);
        Check.same("fill(1), 0.8 percent", rounded.fill(1), 0);
        rounded.discard(0);
        Check.same("fill(0), empty", rounded.fill(0), 0);
    }

    private static void promise39Moisture() {
        WitheringLoft loft = new WitheringLoft();
        Check.throwsIndex("moisture(3, 2)", () -> loft.moisture(3, 2));
        Check.throwsIndex("moisture(-1, 0)", () -> loft.moisture(-1, 0));
        Check.throwsArgument("moisture(0, 2)", () -> loft.moisture(0, 2));
        Check.throwsArgument("moisture(2, -1), empty", () -> loft.moisture(2, -1));
        Check.same("moisture(1, BOTTOM)", loft.moisture(1, WitheringLoft.BOTTOM), 636);
        Check.same("moisture(1, TOP)", loft.moisture(1, WitheringLoft.TOP), 708);
        Check.same("moisture(2, BOTTOM)", loft.moisture(2, WitheringLoft.BOTTOM), -1);
        loft.discard(1);
        Check.same("moisture(1, TOP), empty", loft.moisture(1, WitheringLoft.TOP), -1);
    }

    private static void promise40To43Leaf() {
        WitheringLoft loft = new WitheringLoft();
        existsBelow("spread", 3, loft, WitheringLoft::spread);
        existsBelow("warmth", 3, loft, WitheringLoft::warmth);
        existsBelow("damage", 3, loft, WitheringLoft::damage);
        existsBelow("marks", 3, loft, WitheringLoft::marks);
        Check.same("spread(0), the top is moister", loft.spread(0), 24);
        loft.passHours(2);
        Check.same("spread(0), the bottom is moister", loft.spread(0), 24);
        Check.same("spread(2)", loft.spread(2), -1);
        Check.same("warmth(2)", loft.warmth(2), -1);
        Check.same("damage(2)", loft.damage(2), -1);
        Check.same("marks(2)", loft.marks(2), -1);
        Check.same("marks(0)", loft.marks(0), 76);
        loft.turnLeaf(0);
        Check.same("marks(0), damage 2", loft.marks(0), 96);
        Check.same("spread(1)", loft.spread(1), 120);
        Check.same("marks(1), not less than 0", loft.marks(1), 0);
        loft.setFan(0, 0);
        loft.passHours(12);
        Check.same("warmth(0)", loft.warmth(0), 12);
        Check.same("damage(0)", loft.damage(0), 5);
        Check.same("marks(0)", loft.marks(0), 90);
    }

    private static void promise44Loss() {
        WitheringLoft loft = new WitheringLoft();
        existsBelow("loss", 3, loft, WitheringLoft::loss);
        Check.same("loss(0)", loft.loss(0), 48);
        Check.same("loss(1)", loft.loss(1), 48);
        loft.setFan(2, 5);
        Check.same("loss(2), empty", loft.loss(2), 0);
        loft.setFan(0, 0);
        Check.same("loss(0), no wind", loft.loss(0), 0);
        loft.setFan(0, 5);
        loft.setHeat(5);
        loft.setHumidity(20);
        Check.same("loss(0), 5*105*60/150", loft.loss(0), 210);
        loft.setHumidity(21);
        loft.load(2, 33, 700);
        Check.same("loss(2), 5*104*60/166 = 187.9", loft.loss(2), 187);
        loft.passHours(21);
        Check.same("loss(0) at 24 in the monsoon, 5*30*60/150", loft.loss(0), 60);
        Check.same("loss(0) of leaf at 300", loft.moisture(0, 0), 300);
    }

    private static void promise45And46Ready() {
        WitheringLoft loft = new WitheringLoft();
        existsBelow("whyNoDischarge", 3, loft, WitheringLoft::whyNoDischarge);
        Check.same("whyNoDischarge(2)", loft.whyNoDischarge(2), WitheringLoft.NO_LEAF);
        Check.same("whyNoDischarge(0)", loft.whyNoDischarge(0), WitheringLoft.TOO_MOIST);
        Check.same("readyTroughs()", loft.readyTroughs(), 0);
        loft.setTarget(664, 24);
        Check.same("whyNoDischarge(0), 640/664", loft.whyNoDischarge(0), WitheringLoft.ALLOWED);
        Check.same("readyTroughs()", loft.readyTroughs(), 1);
        loft.setTarget(665, 24);
        Check.same("whyNoDischarge(0), the bottom is too dry", loft.whyNoDischarge(0), WitheringLoft.TOO_DRY);
        loft.setTarget(661, 25);
        Check.same("whyNoDischarge(1), the top is too moist", loft.whyNoDischarge(1), WitheringLoft.TOO_MOIST);
        loft.setTarget(662, 25);
        Check.same("whyNoDischarge(1), too dry and too moist", loft.whyNoDischarge(1), WitheringLoft.TOO_DRY);
        loft.setTarget(640, 24);
        Check.same("whyNoDischarge(0), 640/664", loft.whyNoDischarge(0), WitheringLoft.ALLOWED);
        loft.setTarget(639, 24);
        Check.same("whyNoDischarge(0), the top is too moist", loft.whyNoDischarge(0), WitheringLoft.TOO_MOIST);
        loft.reverse(1);
        loft.passHours(2);
        // 592/568 and 588/612
        Check.same("setTarget(590, 22)", loft.setTarget(590, 22), 2);
        Check.same("readyTroughs()", loft.readyTroughs(), 3);
        loft.load(2, 1, 600);
        Check.same("readyTroughs()", loft.readyTroughs(), 7);
        loft.discharge(0);
        Check.same("readyTroughs()", loft.readyTroughs(), 6);
        loft.setTarget(590, 21);
        Check.same("readyTroughs()", loft.readyTroughs(), 4);
        // The top is too dry, not the bottom.
        WitheringLoft dry = Check.after("loft;trough 10;load 0 5 600;fan 0 1;reverse 0;hours 1;target 590 5;");
        Check.same("whyNoDischarge(0)", dry.whyNoDischarge(0), WitheringLoft.TOO_DRY);
        Check.same("readyTroughs() of 8", Check.after("loft;repeat 8(trough 10;);load 7 1 600;").readyTroughs(), 128);
    }

    private static void promise47Weight() {
        WitheringLoft loft = new WitheringLoft();
        existsBelow("weight", 3, loft, WitheringLoft::weight);
        Check.same("weight(0)", loft.weight(0), 89200);
        Check.same("weight(2)", loft.weight(2), 0);
        loft.passHours(21);
        Check.same("weight(0), both layers from 760 to 300", loft.weight(0), 100000 - 50 * 920);
        loft.passHours(10);
        Check.same("weight(0), no drier", loft.weight(0), 100000 - 50 * 920);
        loft.discard(0);
        Check.same("weight(0)", loft.weight(0), 0);
    }

    private static void promise48To50Probes() {
        WitheringLoft loft = new WitheringLoft();
        existsBelow("reading", 2, loft, WitheringLoft::reading);
        existsBelow("probeTrough", 2, loft, WitheringLoft::probeTrough);
        existsBelow("probeLayer", 2, loft, WitheringLoft::probeLayer);
        Check.same("reading(0)", loft.reading(0), 674);
        Check.same("reading(1)", loft.reading(1), 631);
        Check.same("probeTrough(0)", loft.probeTrough(0), 0);
        Check.same("probeTrough(1)", loft.probeTrough(1), 1);
        Check.same("probeLayer(0)", loft.probeLayer(0), WitheringLoft.TOP);
        Check.same("probeLayer(1)", loft.probeLayer(1), WitheringLoft.BOTTOM);
        loft.discard(0);
        Check.same("reading(0), empty", loft.reading(0), -1);
        Check.same("probeTrough(0)", loft.probeTrough(0), 0);
        loft.load(0, 1, 600);
        Check.same("reading(0), new leaf", loft.reading(0), 610);
    }

    private static void promise51MeanReading() {
        WitheringLoft loft = new WitheringLoft();
        existsBelow("meanReading", 3, loft, WitheringLoft::meanReading);
        Check.same("meanReading(0)", loft.meanReading(0), 674);
        Check.same("meanReading(2), neither leaf nor probe", loft.meanReading(2), -1);
        loft.addProbe(0, 0, 1);
        Check.same("meanReading(0), (674 + 641) / 2", loft.meanReading(0), 657);
        loft.addProbe(0, 0, 3);
        Check.same("meanReading(0), (674 + 641 + 643) / 3", loft.meanReading(0), 652);
        loft.addProbe(2, 0, 3);
        Check.same("meanReading(2), no leaf", loft.meanReading(2), -1);
        loft.load(2, 5, 600);
        Check.same("meanReading(2)", loft.meanReading(2), 603);
        loft.moveProbe(1, 2, 0);
        Check.same("meanReading(1), no probe", loft.meanReading(1), -1);
        Check.same("meanReading(2), (595 + 603) / 2", loft.meanReading(2), 599);
        loft.discard(0);
        Check.same("meanReading(0), no leaf", loft.meanReading(0), -1);
    }
}
