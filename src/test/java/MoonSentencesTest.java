/** A test for each sentence of promises 1 to 12 that names a boundary case. */
final class MoonSentencesTest {
    private static final Class<IllegalArgumentException> ARGUMENT = IllegalArgumentException.class;
    private static final Class<IllegalStateException> STATE = IllegalStateException.class;
    private static final Class<IndexOutOfBoundsException> INDEX = IndexOutOfBoundsException.class;
    private static final String NO_MOON = "Throws `IndexOutOfBoundsException` if there is no such moon";

    private MoonSentencesTest() {
    }

    public static void main(String[] args) {
        Sentences s = Sentences.run("MoonSentencesTest");
        tell(s);
        s.close();
    }

    static void tell(Sentences s) {
        newObject(s);
        s.of("Promise 2: addHardMoon");
        addMoon(s, Tubs.KINDS.get(0));
        s.of("Promise 3: addSoftMoon");
        addMoon(s, Tubs.KINDS.get(1));
        s.of("Promise 4: addBubbleMoon");
        addMoon(s, Tubs.KINDS.get(2));
        removeMoon(s);
        moonCount(s);
        questions(s);
    }

    private static void newObject(Sentences s) {
        s.of("Promise 1: A new object");
        s.says("Creates a tub with base level 20, without moons, toes, plug and towels, with closed taps, at minute 0.",
                check -> {
                    BathtubTides x = new BathtubTides();
                    check.same("base level", 20, x.baseLevel());
                    check.same("moons", 0, x.moonCount());
                    check.fails("moon 0", INDEX, () -> x.massOf(0));
                    check.same("the first toe", 1, x.placeToe(0));
                    x.undo();
                    for (int position = 0; position < 12; position++) {
                        check.same("toe at " + position, false, x.hasToe(position));
                        check.same("level at " + position, 20, x.levelAt(position));
                        check.same("tide at " + position, 0, x.tideAt(position));
                    }
                    check.fails("plug", java.util.NoSuchElementException.class, () -> x.plugPosition());
                    check.same("towels", 0, x.towelCount());
                    check.fails("towel 0", INDEX, () -> x.shoreOf(0));
                    check.same("flow", 0, x.flow());
                    check.same("time", 0, x.time());
                    check.same("spilled", 0, x.spilled());
                });
    }

    private static void addMoon(Sentences s, Tubs.Adder kind) {
        s.says("`mass`: its initial mass, 1 to 6", check -> {
            for (int mass = 1; mass <= 6; mass++) {
                BathtubTides x = new BathtubTides();
                check.same("mass " + mass, 0, kind.add(x, mass, 0, 1));
                check.same("mass", mass, x.massOf(0));
            }
            for (int mass : Tubs.outside(1, 6)) {
                check.fails("mass " + mass, ARGUMENT, () -> kind.add(new BathtubTides(), mass, 0, 1));
            }
        });
        s.says("`position`: its start position, 0 to 11", check -> {
            for (int position = 0; position <= 11; position++) {
                BathtubTides x = new BathtubTides();
                check.same("position " + position, 0, kind.add(x, 1, position, 1));
                check.same("position", position, x.positionOf(0));
            }
            for (int position : Tubs.NO_POSITIONS) {
                check.fails("position " + position, ARGUMENT, () -> kind.add(new BathtubTides(), 1, position, 1));
            }
        });
        s.says("`period`: its period, 1 to 12", check -> {
            for (int period = 1; period <= 12; period++) {
                BathtubTides x = new BathtubTides();
                check.same("period " + period, 0, kind.add(x, 1, 11, period));
                x.advance(period);
                check.same("one move", 0, x.positionOf(0));
                x.undo();
                x.advance(12);
                check.same("12 minutes", (11 + 12 / period) % 12, x.positionOf(0));
            }
            for (int period : Tubs.outside(1, 12)) {
                check.fails("period " + period, ARGUMENT, () -> kind.add(new BathtubTides(), 1, 0, period));
            }
        });
        s.says("Returns the number of the moon.", check -> {
            for (int moons = 0; moons < 5; moons++) {
                BathtubTides x = Tubs.withMoons(moons);
                check.same("with " + moons + " moons before", moons, kind.add(x, 6, 11, 12));
                check.same("its mass", 6, x.massOf(moons));
                check.same("count", moons + 1, x.moonCount());
            }
        });
        s.says("Throws `IllegalArgumentException` if the mass, the position or the period is out of range", check -> {
            int[][] wrong = {{0, 0, 1}, {7, 0, 1}, {1, -1, 1}, {1, 12, 1}, {1, 0, 0}, {1, 0, 13}, {0, 12, 13},
                {Integer.MIN_VALUE, 0, 1}, {1, Integer.MAX_VALUE, 1}, {1, 0, Integer.MIN_VALUE}};
            for (int[] w : wrong) {
                for (int moons : new int[] {0, 4, 5}) {
                    check.refuses(w[0] + ", " + w[1] + ", " + w[2] + " with " + moons + " moons", ARGUMENT,
                            () -> Tubs.withMoons(moons), x -> kind.add(x, w[0], w[1], w[2]));
                }
            }
        });
        s.says("Throws `IllegalStateException` if there are 5 moons", check -> {
            check.same("with 4 moons", 4, kind.add(Tubs.withMoons(4), 1, 0, 1));
            check.refuses("with 5 moons", STATE, () -> Tubs.withMoons(5), x -> kind.add(x, 1, 0, 1));
            check.refuses("with 5 moons", STATE, Tubs::full, x -> kind.add(x, 6, 11, 12));
            BathtubTides x = Tubs.withMoons(5);
            x.removeMoon(0);
            check.same("with 4 moons again", 4, kind.add(x, 1, 0, 1));
        });
    }

    private static void removeMoon(Sentences s) {
        s.of("Promise 5: removeMoon");
        s.says("Returns the number of moons that are left.", check -> {
            BathtubTides x = Tubs.withMoons(5);
            for (int left = 4; left >= 0; left--) {
                check.same("the first one goes", left, x.removeMoon(0));
                check.same("count", left, x.moonCount());
            }
            BathtubTides y = Tubs.withMoons(5);
            for (int left = 4; left >= 0; left--) {
                check.same("the last one goes", left, y.removeMoon(left));
            }
        });
        s.says(NO_MOON, check -> Tubs.noSuchMoon(check, (x, moon) -> x.removeMoon(moon)));
    }

    private static void moonCount(Sentences s) {
        s.of("Promise 6: moonCount");
        s.says("Returns the number of moons.", check -> {
            for (int moons = 0; moons <= 5; moons++) {
                check.same("count", moons, Tubs.withMoons(moons).moonCount());
            }
            BathtubTides x = Tubs.withMoons(5);
            check.fails("the sixth", STATE, () -> x.addHardMoon(1, 0, 1));
            check.same("after a refused call", 5, x.moonCount());
        });
    }

    private static void questions(Sentences s) {
        s.of("Promise 7: positionOf");
        s.says(NO_MOON, check -> Tubs.noSuchMoon(check, (x, moon) -> x.positionOf(moon)));
        s.of("Promise 8: massOf");
        s.says(NO_MOON, check -> Tubs.noSuchMoon(check, (x, moon) -> x.massOf(moon)));
        s.of("Promise 9: ageOf");
        s.says("Returns its age in minutes.", check -> {
            BathtubTides x = new BathtubTides();
            x.advance(59);
            x.addHardMoon(1, 0, 12);
            check.same("at first", 0, x.ageOf(0));
            x.advance(1);
            check.same("a minute later", 1, x.ageOf(0));
            x.advance(60);
            check.same("more than 60", 61, x.ageOf(0));
        });
        s.says(NO_MOON, check -> Tubs.noSuchMoon(check, (x, moon) -> x.ageOf(moon)));
        s.of("Promise 10: isHard");
        s.says("Returns whether it is a hard moon.", check -> {
            for (int age : new int[] {0, 1, 10, 120}) {
                BathtubTides x = Tubs.withMoons(3);
                Tubs.pass(x, age);
                check.same("at age " + age, "true false false", x.isHard(0) + " " + x.isHard(1) + " " + x.isHard(2));
            }
        });
        s.says(NO_MOON, check -> Tubs.noSuchMoon(check, (x, moon) -> x.isHard(moon)));
        s.of("Promise 11: isSoft");
        s.says("Returns whether it is a soft moon.", check -> {
            for (int age : new int[] {0, 1, 10, 120}) {
                BathtubTides x = Tubs.withMoons(3);
                Tubs.pass(x, age);
                check.same("at age " + age + ", even without mass", "false true false",
                        x.isSoft(0) + " " + x.isSoft(1) + " " + x.isSoft(2));
            }
        });
        s.says(NO_MOON, check -> Tubs.noSuchMoon(check, (x, moon) -> x.isSoft(moon)));
        s.of("Promise 12: isEclipsed");
        s.says("Returns whether it is eclipsed.", check -> {
            BathtubTides x = new BathtubTides();
            x.addSoftMoon(1, 11, 10);
            x.insertPlug(5);
            check.same("at first", true, x.isEclipsed(0));
            x.advance(9);
            check.same("before it moves", true, x.isEclipsed(0));
            x.advance(1);
            check.same("moved on, from 11 to 0", false, x.isEclipsed(0));
            x.insertPlug(6);
            check.same("even without mass", true, x.isEclipsed(0));
            x.pullPlug();
            check.same("without a plug", false, x.isEclipsed(0));
        });
        s.says(NO_MOON, check -> Tubs.noSuchMoon(check, (x, moon) -> x.isEclipsed(moon)));
    }
}
