/** Promises 27 to 35: time and water. */
final class WaterTest {
    private static final Class<IllegalArgumentException> ARGUMENT = IllegalArgumentException.class;
    private static final Class<IndexOutOfBoundsException> INDEX = IndexOutOfBoundsException.class;
    private static final Check check = new Check("WaterTest");

    public static void main(String[] args) {
        promises27And31Flow();
        promise28Advance();
        floodsInOrder();
        floodsAtTheNewTime();
        noFloodOfAnEmptyTub();
        promises29And30TimeAndBase();
        promise32Spilled();
        promise33Tide();
        promise34Level();
        promise35HighestShore();
        check.close();
    }

    private static void promises27And31Flow() {
        BathtubTides x = new BathtubTides();
        for (int flow : new int[] {Integer.MIN_VALUE, -4, 4, Integer.MAX_VALUE}) {
            check.fails("flow " + flow, ARGUMENT, () -> x.setFlow(flow));
        }
        check.same("closed", 0, x.flow());
        int before = 0;
        for (int flow = -3; flow <= 3; flow++) {
            check.same("previous", before, x.setFlow(flow));
            check.same("flow", flow, x.flow());
            before = flow;
        }
        check.fails("too much", ARGUMENT, () -> x.setFlow(4));
        check.same("flow stays", 3, x.flow());
        check.same("base waits for the minute", 20, x.baseLevel());
    }

    private static void promise28Advance() {
        BathtubTides x = new BathtubTides();
        for (int minutes : new int[] {Integer.MIN_VALUE, -1, 0, 61, Integer.MAX_VALUE}) {
            check.fails("minutes " + minutes, ARGUMENT, () -> x.advance(minutes));
        }
        check.same("time stands", 0, x.time());
        check.same("no towel", 0, x.advance(60));
        check.same("time", 60, x.time());
        check.same("one minute", 0, x.advance(1));
        check.same("time", 61, x.time());

        BathtubTides y = new BathtubTides();
        y.layTowel(0, 20);
        check.same("a level as high as the towel is no flood", 0, y.advance(60));
        y.layTowel(1, 19);
        check.same("a level above it is one", 1, y.advance(60));
        check.same("base", 19, y.baseLevel());

        BathtubTides z = new BathtubTides();
        z.layTowel(0, 0);
        check.same("5 units at most", 5, z.advance(60));
        check.same("base", 15, z.baseLevel());
    }

    private static void floodsInOrder() {
        BathtubTides x = new BathtubTides();
        x.layTowel(7, 19);
        x.layTowel(3, 19);
        check.same("the first takes the water from the second", 1, x.advance(1));
        check.same("absorbed", "1 0", x.absorbedBy(0) + " " + x.absorbedBy(1));
        x.removeTowel(0);
        x.layTowel(7, 19);
        check.same("the order is that of the numbers", 1, x.advance(1));
        check.same("absorbed", "1 0", x.absorbedBy(0) + " " + x.absorbedBy(1));
        check.same("shores", "3 7", x.shoreOf(0) + " " + x.shoreOf(1));
    }

    private static void floodsAtTheNewTime() {
        BathtubTides x = new BathtubTides();
        x.addHardMoon(6, 0, 1);
        x.layTowel(1, 37);
        check.same("level before", 32, x.levelAt(1));
        check.same("the moon comes first", 1, x.advance(1));
        check.same("base", 19, x.baseLevel());

        BathtubTides y = new BathtubTides();
        y.setFlow(1);
        y.advance(11);
        y.layTowel(4, 20);
        check.same("the taps come first", 1, y.advance(1));
        check.same("base", 20, y.baseLevel());
    }

    private static void noFloodOfAnEmptyTub() {
        BathtubTides x = new BathtubTides();
        x.setFlow(-3);
        for (int i = 0; i < 10; i++) {
            x.advance(60);
        }
        x.addHardMoon(6, 0, 12);
        x.layTowel(0, 3);
        check.same("level", 18, x.levelAt(0));
        check.same("base", 0, x.baseLevel());
        check.same("no water to absorb", 0, x.advance(1));
        x.setFlow(1);
        check.same("one unit", 1, x.advance(11));
        check.same("base", 0, x.baseLevel());
        check.same("absorbed", 1, x.absorbedBy(0));
    }

    private static void promises29And30TimeAndBase() {
        BathtubTides x = new BathtubTides();
        x.setFlow(3);
        int base = 20;
        for (int time = 1; time <= 120; time++) {
            x.advance(1);
            base = time % 12 == 0 ? Math.min(40, base + 3) : base;
            check.same("time", time, x.time());
            check.same("base at " + time, base, x.baseLevel());
            check.same("level", base, x.levelAt(6));
        }
        check.same("limited", 40, x.baseLevel());
        baseFallsTo0();
        BathtubTides y = new BathtubTides();
        y.setFlow(2);
        y.advance(60);
        check.same("five times", 30, y.baseLevel());
        y.setFlow(-1);
        y.advance(11);
        check.same("not yet", 30, y.baseLevel());
        y.advance(1);
        check.same("now", 29, y.baseLevel());
    }

    private static void baseFallsTo0() {
        BathtubTides x = new BathtubTides();
        x.setFlow(3);
        x.advance(60);
        x.advance(60);
        x.setFlow(-3);
        int base = 40;
        for (int time = 121; time <= 300; time++) {
            x.advance(1);
            base = time % 12 == 0 ? Math.max(0, base - 3) : base;
            check.same("base at " + time, base, x.baseLevel());
        }
        check.same("limited", 0, x.baseLevel());
        check.same("balanced", true, x.isBalanced());
    }

    private static void promise32Spilled() {
        BathtubTides x = new BathtubTides();
        x.setFlow(3);
        x.advance(60);
        x.advance(60);
        check.same("the taps spill nothing", 0, x.spilled());
        x.layTowel(0, 0);
        x.layTowel(6, 0);
        x.advance(5);
        x.setFlow(3);
        x.advance(60);
        check.same("base", 40, x.baseLevel());
        x.wringTowel(0);
        check.same("first", 5, x.spilled());
        x.removeTowel(1);
        check.same("all so far", 10, x.spilled());
    }

    private static void promise33Tide() {
        int[] hard = {3, 2, 1, 0, -1, -2, -3, -2, -1, 0, 1, 2};
        BathtubTides x = new BathtubTides();
        x.addHardMoon(5, 0, 1);
        for (int minute = 0; minute < 24; minute++) {
            for (int position = 0; position < 12; position++) {
                check.same("tide", 5 * hard[(position + 12 - minute % 12) % 12], x.tideAt(position));
            }
            x.advance(1);
        }
        x.addBubbleMoon(3, 6, 12);
        check.same("sum", 15 - 9, x.tideAt(0));
        check.same("sum", 15 - 9, x.tideIn(0, 0));
        x.placeToe(0);
        x.placeToe(6);
        check.same("half", 3, x.tideAt(0));
        check.same("half below 0", -3, x.tideAt(6));
        x.removeMoon(1);
        check.same("half towards 0", 7, x.tideAt(0));
        check.same("half below 0 towards 0", -7, x.tideAt(6));
        x.insertPlug(6);
        check.same("eclipsed", 0, x.tideAt(0));
        check.same("eclipsed", 0, x.tideAt(1));
        x.insertPlug(5);
        check.same("not eclipsed", 10, x.tideAt(1));
        for (int position : new int[] {Integer.MIN_VALUE, -1, 12, Integer.MAX_VALUE}) {
            check.fails("tideAt", INDEX, () -> x.tideAt(position));
            check.fails("levelAt", INDEX, () -> x.levelAt(position));
        }
    }

    private static void promise34Level() {
        BathtubTides x = new BathtubTides();
        x.addHardMoon(6, 3, 12);
        x.addHardMoon(5, 3, 12);
        check.same("high", 20 + 33, x.levelAt(3));
        check.same("between", 20, x.levelAt(0));
        check.same("at least 0", 0, x.levelAt(9));
        check.same("the tide goes below", -33, x.tideAt(9));
        x.placeToe(9);
        check.same("with a toe", 4, x.levelAt(9));
    }

    private static void promise35HighestShore() {
        BathtubTides x = new BathtubTides();
        check.same("all the same", 0, x.highestShore());
        x.addHardMoon(1, 11, 12);
        check.same("last", 11, x.highestShore());
        x.addHardMoon(1, 5, 12);
        check.same("tie of all", 0, x.highestShore());
        x.placeToe(0);
        x.removeMoon(1);
        x.addHardMoon(1, 7, 12);
        check.same("tie of some", 7, x.highestShore());
        x.placeToe(7);
        check.same("next", 8, x.highestShore());
        for (int position = 0; position < 12; position++) {
            BathtubTides y = new BathtubTides();
            y.addHardMoon(1, position, 12);
            check.same("under the moon", position, y.highestShore());
        }
        BathtubTides damped = new BathtubTides();
        damped.addHardMoon(6, 0, 12);
        damped.placeToe(0);
        check.same("beside the toe under the moon", 1, damped.highestShore());
    }
}
