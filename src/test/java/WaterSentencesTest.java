/** A test for each sentence of promises 27 to 35 that names a boundary case. */
final class WaterSentencesTest {
    private static final Class<IllegalArgumentException> ARGUMENT = IllegalArgumentException.class;
    private static final String POSITION = "`position`: the position, 0 to 11";
    private static final String NO_POSITION = "Throws `IndexOutOfBoundsException` if there is no such position";

    private WaterSentencesTest() {
    }

    public static void main(String[] args) {
        Sentences s = Sentences.run("WaterSentencesTest");
        tell(s);
        s.close();
    }

    static void tell(Sentences s) {
        setFlow(s);
        advance(s);
        state(s);
        tideAt(s);
        levelAt(s);
        highestShore(s);
    }

    private static void setFlow(Sentences s) {
        s.of("Promise 27: setFlow");
        s.says("`flow`: the new flow, -3 to 3", check -> {
            for (int flow = -3; flow <= 3; flow++) {
                BathtubTides x = new BathtubTides();
                x.setFlow(flow);
                check.same("flow", flow, x.flow());
                check.same("not before the next multiple of 12", 20, x.baseLevel());
                x.advance(12);
                check.same("base", 20 + flow, x.baseLevel());
            }
        });
        s.says("Returns the previous flow.", check -> {
            BathtubTides x = new BathtubTides();
            check.same("closed at first", 0, x.setFlow(-3));
            check.same("the least", -3, x.setFlow(3));
            check.same("the most", 3, x.setFlow(3));
            check.fails("refused", ARGUMENT, () -> x.setFlow(4));
            check.same("a refused one is none", 3, x.setFlow(0));
            check.same("closed", 0, x.setFlow(0));
        });
        s.says("Throws `IllegalArgumentException` if the flow is out of range", check -> {
            for (int flow : Tubs.outside(-3, 3)) {
                check.refuses("flow " + flow, ARGUMENT, BathtubTides::new, x -> x.setFlow(flow));
                check.refuses("flow " + flow, ARGUMENT, Tubs::busy, x -> x.setFlow(flow));
            }
        });
    }

    private static void advance(Sentences s) {
        s.of("Promise 28: advance");
        s.says("`minutes`: the number of minutes, 1 to 60", check -> {
            for (int minutes : new int[] {1, 2, 59, 60}) {
                BathtubTides x = new BathtubTides();
                x.advance(minutes);
                check.same("time", minutes, x.time());
            }
        });
        s.says("Returns the number of floods in these minutes.", check -> {
            check.same("no towel", 0, new BathtubTides().advance(60));
            BathtubTides x = new BathtubTides();
            x.layTowel(0, 0);
            check.same("one", 1, x.advance(1));
            check.same("the other four", 4, x.advance(60));
            check.same("none any more", 0, x.advance(60));
            BathtubTides y = Tubs.withBase(40);
            for (int towel = 0; towel < 4; towel++) {
                y.layTowel(towel, 0);
            }
            check.same("four towels in one minute", 4, y.advance(1));
            check.same("all that they can hold", 16, y.advance(60));
            check.same("base", 20, y.baseLevel());
        });
        s.says("Throws `IllegalArgumentException` if the number of minutes is out of range", check -> {
            for (int minutes : Tubs.outside(1, 60)) {
                check.refuses("minutes " + minutes, ARGUMENT, BathtubTides::new, x -> x.advance(minutes));
                check.refuses("minutes " + minutes, ARGUMENT, Tubs::busy, x -> x.advance(minutes));
            }
            check.refuses("minutes -1", ARGUMENT, Tubs::busy, x -> x.advance(-1));
        });
    }

    private static void state(Sentences s) {
        s.of("Promise 29: time");
        s.says("Returns the number of minutes that have passed.", check -> {
            BathtubTides x = new BathtubTides();
            check.same("at first", 0, x.time());
            x.advance(1);
            check.same("one", 1, x.time());
            x.advance(60);
            check.same("more than 60", 61, x.time());
            check.fails("refused", ARGUMENT, () -> x.advance(61));
            check.same("no minute of a refused call", 61, x.time());
        });
        s.of("Promise 30: baseLevel");
        s.says("Returns the base level.", check -> {
            check.same("at first", 20, new BathtubTides().baseLevel());
            check.same("the least", 0, Tubs.withBase(0).baseLevel());
            check.same("the most", 40, Tubs.withBase(40).baseLevel());
            BathtubTides x = new BathtubTides();
            x.addHardMoon(6, 0, 12);
            check.same("without any tide", 20, x.baseLevel());
        });
        s.of("Promise 31: flow");
        s.says("Returns the flow.", check -> {
            BathtubTides x = new BathtubTides();
            check.same("at first", 0, x.flow());
            x.setFlow(-3);
            check.same("the least", -3, x.flow());
            x.setFlow(3);
            check.same("the most", 3, x.flow());
            check.fails("refused", ARGUMENT, () -> x.setFlow(-4));
            check.same("after a refused call", 3, x.flow());
            Tubs.pass(x, 120);
            check.same("that of the taps, though the tub is full", 3, x.flow());
        });
        s.of("Promise 32: spilled");
        s.says("Returns the water that was spilled so far.", check -> {
            BathtubTides x = new BathtubTides();
            check.same("at first", 0, x.spilled());
            BathtubTides full = Tubs.withBase(40);
            full.setFlow(3);
            full.advance(60);
            check.same("the taps spill nothing", 0, full.spilled());
            BathtubTides wet = Tubs.withWetTowel(36);
            wet.layTowel(1, 0);
            wet.wringTowel(0);
            check.same("by wringing", 1, wet.spilled());
            wet.setFlow(3);
            Tubs.pass(wet, 144);
            check.same("kept", 1, wet.spilled());
            wet.removeTowel(1);
            check.same("and by removing", 6, wet.spilled());
            wet.undo();
            check.same("undone", 1, wet.spilled());
        });
    }

    private static void tideAt(Sentences s) {
        s.of("Promise 33: tideAt");
        s.says(POSITION, check -> {
            int[] due = {2, 3, 2, 1, 0, -1, -2, -3, -2, -1, 0, 1};
            BathtubTides x = new BathtubTides();
            x.addHardMoon(1, 1, 12);
            for (int position = 0; position <= 11; position++) {
                check.same("at " + position, due[position], x.tideAt(position));
            }
        });
        s.says("Returns the tide, which can be negative.", check -> {
            BathtubTides x = new BathtubTides();
            check.same("without moons", 0, x.tideAt(0));
            for (int moon = 0; moon < 5; moon++) {
                x.addHardMoon(6, 0, 12);
            }
            check.same("the highest", 90, x.tideAt(0));
            check.same("the lowest", -90, x.tideAt(6));
            x.placeToe(6);
            check.same("the lowest at a toe", -45, x.tideAt(6));
        });
        s.says(NO_POSITION, check -> Tubs.noSuchPosition(check, (x, position) -> x.tideAt(position)));
    }

    private static void levelAt(Sentences s) {
        s.of("Promise 34: levelAt");
        s.says(POSITION, check -> {
            int[] due = {21, 22, 23, 22, 21, 20, 19, 18, 17, 18, 19, 20};
            BathtubTides x = new BathtubTides();
            x.addHardMoon(1, 2, 12);
            for (int position = 0; position <= 11; position++) {
                check.same("at " + position, due[position], x.levelAt(position));
            }
        });
        s.says(NO_POSITION, check -> Tubs.noSuchPosition(check, (x, position) -> x.levelAt(position)));
    }

    private static void highestShore(Sentences s) {
        s.of("Promise 35: highestShore");
        s.says("Returns the position with the highest level, and the lowest position in case of a tie.", check -> {
            check.same("a tie of all", 0, new BathtubTides().highestShore());
            check.same("a tie of all at 0", 0, Tubs.withBase(0).highestShore());
            for (int position = 0; position <= 11; position++) {
                BathtubTides x = new BathtubTides();
                x.addHardMoon(1, position, 12);
                check.same("the only one", position, x.highestShore());
                x.placeToe(position);
                int beside = position == 0 ? 1 : position == 11 ? 0 : position - 1;
                check.same("a tie of both sides of " + position, beside, x.highestShore());
                x.addHardMoon(1, (position + 6) % 12, 12);
                check.same("a tie of all, opposite moons", 0, x.highestShore());
            }
            BathtubTides ends = new BathtubTides();
            ends.addHardMoon(1, 0, 12);
            ends.addHardMoon(1, 11, 12);
            check.same("a tie of 0 and 11", 0, ends.highestShore());
            BathtubTides last = new BathtubTides();
            last.addHardMoon(1, 10, 12);
            last.addHardMoon(1, 11, 12);
            check.same("a tie of 10 and 11", 10, last.highestShore());
            last.placeToe(10);
            check.same("11 alone", 11, last.highestShore());
        });
    }
}
