/** Promises 1 to 12: a new object and its moons. */
final class MoonsTest {
    private static final Class<IllegalArgumentException> ARGUMENT = IllegalArgumentException.class;
    private static final Class<IllegalStateException> STATE = IllegalStateException.class;
    private static final Class<IndexOutOfBoundsException> INDEX = IndexOutOfBoundsException.class;
    private static final Check check = new Check("MoonsTest");

    public static void main(String[] args) {
        promise1NewObject();
        for (int kind = 0; kind < 3; kind++) {
            promises2To4Add(kind);
        }
        promise5Remove();
        promise7Position();
        promise8Mass();
        promise9Age();
        promises10And11Kinds();
        promise12Eclipsed();
        noSuchMoon();
        check.close();
    }

    private static int add(BathtubTides x, int kind, int mass, int position, int period) {
        return kind == 0 ? x.addHardMoon(mass, position, period)
                : kind == 1 ? x.addSoftMoon(mass, position, period) : x.addBubbleMoon(mass, position, period);
    }

    private static void promise1NewObject() {
        BathtubTides x = new BathtubTides();
        check.same("base level", 20, x.baseLevel());
        check.same("moons", 0, x.moonCount());
        check.same("towels", 0, x.towelCount());
        check.same("flow", 0, x.flow());
        check.same("time", 0, x.time());
        check.same("spilled", 0, x.spilled());
        for (int position = 0; position < 12; position++) {
            check.same("toe", false, x.hasToe(position));
            check.same("level", 20, x.levelAt(position));
        }
        check.fails("plug", java.util.NoSuchElementException.class, () -> x.plugPosition());
        check.fails("undo", STATE, () -> x.undo());
        check.fails("restore", STATE, () -> x.restore());
        check.fails("line", INDEX, () -> x.lineAt(0));
        BathtubTides other = new BathtubTides();
        other.addHardMoon(6, 0, 1);
        other.advance(60);
        check.same("another object stays", "0 20 0", x.time() + " " + x.baseLevel() + " " + x.moonCount());
    }

    private static void promises2To4Add(int kind) {
        BathtubTides x = new BathtubTides();
        int[] far = {Integer.MIN_VALUE, -1, 0, 7, 12, 13, Integer.MAX_VALUE};
        for (int value : far) {
            if (value < 1 || value > 6) {
                check.fails("mass " + value, ARGUMENT, () -> add(x, kind, value, 0, 1));
            }
            if (value < 0 || value > 11) {
                check.fails("position " + value, ARGUMENT, () -> add(x, kind, 1, value, 1));
            }
            if (value < 1 || value > 12) {
                check.fails("period " + value, ARGUMENT, () -> add(x, kind, 1, 0, value));
            }
        }
        check.same("no moon by a call that throws", 0, x.moonCount());
        check.fails("nothing to undo", STATE, () -> x.undo());
        check.same("first", 0, add(x, kind, 1, 0, 1));
        check.same("second", 1, add(x, kind, 6, 11, 12));
        check.same("third", 2, add(x, (kind + 1) % 3, 3, 5, 7));
        check.same("fourth", 3, add(x, (kind + 2) % 3, 3, 5, 7));
        check.same("fifth", 4, add(x, kind, 2, 3, 4));
        check.same("promise 6", 5, x.moonCount());
        check.fails("sixth", STATE, () -> add(x, kind, 1, 0, 1));
        check.fails("the argument comes first", ARGUMENT, () -> add(x, kind, 0, 0, 1));
        check.fails("the position comes first", ARGUMENT, () -> add(x, kind, 1, 12, 1));
        check.fails("the period comes first", ARGUMENT, () -> add(x, kind, 1, 0, 13));
        check.same("still five", 5, x.moonCount());
        check.same("mass", "1 6 2", x.massOf(0) + " " + x.massOf(1) + " " + x.massOf(4));
        check.same("position", "0 11 3", x.positionOf(0) + " " + x.positionOf(1) + " " + x.positionOf(4));
        check.same("kind", "hsb".charAt(kind), Check.moon(x, 4).charAt(0));
        x.removeMoon(2);
        check.same("a free number again", 4, add(x, kind, 1, 1, 1));
    }

    private static void promise5Remove() {
        BathtubTides x = new BathtubTides();
        x.addHardMoon(1, 0, 2);
        x.advance(5);
        x.addSoftMoon(2, 3, 3);
        x.advance(10);
        x.addBubbleMoon(3, 6, 4);
        x.addHardMoon(4, 9, 5);
        x.advance(1);
        check.fails("too high", INDEX, () -> x.removeMoon(4));
        check.fails("below 0", INDEX, () -> x.removeMoon(-1));
        check.same("left", 3, x.removeMoon(1));
        check.same("moons", "h1@8 b1@6 h4@9", Check.moon(x, 0) + " " + Check.moon(x, 1) + " " + Check.moon(x, 2));
        check.same("ages", "16 1 1", x.ageOf(0) + " " + x.ageOf(1) + " " + x.ageOf(2));
        check.same("left", 2, x.removeMoon(2));
        check.same("left", 1, x.removeMoon(0));
        x.advance(3);
        check.same("periods go along", "b3@7", Check.moon(x, 0));
        check.same("left", 0, x.removeMoon(0));
        check.fails("none", INDEX, () -> x.removeMoon(0));
        check.same("count", 0, x.moonCount());
        removeFromAFullTub();
    }

    private static void removeFromAFullTub() {
        for (int removed = 0; removed < 5; removed++) {
            BathtubTides x = new BathtubTides();
            for (int moon = 0; moon < 5; moon++) {
                add(x, moon % 3, moon + 1, 2 * moon, moon + 3);
            }
            for (int towel = 0; towel < 4; towel++) {
                x.placeToe(2 * towel + 1);
                x.layTowel(3 * towel, 10 * towel + 5);
            }
            x.insertPlug(10);
            check.same("left", 4, x.removeMoon(removed));
            for (int moon = 0; moon < 4; moon++) {
                int before = moon < removed ? moon : moon + 1;
                check.same("kind", "hsb".charAt(before % 3), Check.moon(x, moon).charAt(0));
                check.same("mass", before + 1, x.massOf(moon));
                check.same("position", 2 * before, x.positionOf(moon));
            }
            for (int towel = 0; towel < 4; towel++) {
                check.same("toe", true, x.hasToe(2 * towel + 1));
                check.same("shore", 3 * towel, x.shoreOf(towel));
                check.same("height", 10 * towel + 5, x.heightOf(towel));
                check.same("dry", "0 0", x.absorbedBy(towel) + " " + x.floodsOf(towel));
            }
            check.same("plug", 10, x.plugPosition());
        }
    }

    private static void promise7Position() {
        for (int period = 1; period <= 12; period++) {
            BathtubTides x = new BathtubTides();
            x.advance(7);
            x.addHardMoon(1, period - 1, period);
            for (int age = 0; age <= 150; age++) {
                check.same("period " + period + " age " + age, (period - 1 + age / period) % 12, x.positionOf(0));
                x.advance(1);
            }
        }
    }

    private static void promise8Mass() {
        BathtubTides x = new BathtubTides();
        x.addHardMoon(5, 0, 1);
        x.addSoftMoon(6, 0, 1);
        x.addSoftMoon(1, 0, 1);
        x.addBubbleMoon(5, 0, 1);
        x.addBubbleMoon(1, 0, 1);
        for (int age = 0; age <= 75; age++) {
            check.same("hard", 5, x.massOf(0));
            check.same("soft 6 at " + age, Math.max(0, 6 - age / 10), x.massOf(1));
            check.same("soft 1 at " + age, age < 10 ? 1 : 0, x.massOf(2));
            check.same("bubble 5 at " + age, age % 2 == 0 ? 5 : 2, x.massOf(3));
            check.same("bubble 1 at " + age, age % 2 == 0 ? 1 : 0, x.massOf(4));
            x.advance(1);
        }
    }

    private static void promise9Age() {
        BathtubTides x = new BathtubTides();
        x.addHardMoon(1, 0, 1);
        check.same("at first", 0, x.ageOf(0));
        x.advance(60);
        x.addBubbleMoon(4, 0, 1);
        check.same("the minutes since it was added, not the time", 0, x.ageOf(1));
        x.advance(13);
        check.same("first", 73, x.ageOf(0));
        check.same("second", 13, x.ageOf(1));
        check.same("the mass follows the age", 2, x.massOf(1));
        x.removeMoon(0);
        check.same("age goes along", 13, x.ageOf(0));
    }

    private static void promises10And11Kinds() {
        BathtubTides x = new BathtubTides();
        x.addHardMoon(1, 0, 1);
        x.addSoftMoon(1, 0, 1);
        x.addBubbleMoon(1, 0, 1);
        check.same("hard", "true false", x.isHard(0) + " " + x.isSoft(0));
        check.same("soft", "false true", x.isHard(1) + " " + x.isSoft(1));
        check.same("bubble", "false false", x.isHard(2) + " " + x.isSoft(2));
        x.advance(60);
        check.same("a kind stays", "true true false false",
                x.isHard(0) + " " + x.isSoft(1) + " " + x.isHard(2) + " " + x.isSoft(2));
    }

    private static void promise12Eclipsed() {
        for (int plug = 0; plug < 12; plug++) {
            BathtubTides x = new BathtubTides();
            x.addHardMoon(1, 0, 1);
            check.same("without a plug", false, x.isEclipsed(0));
            x.insertPlug(plug);
            for (int place = 0; place < 12; place++) {
                check.same("moon " + place + " plug " + plug, Math.abs(place - plug) == 6, x.isEclipsed(0));
                x.advance(1);
            }
            x.pullPlug();
            for (int place = 0; place < 12; place++) {
                check.same("pulled", false, x.isEclipsed(0));
                x.advance(1);
            }
        }
    }

    private static void noSuchMoon() {
        BathtubTides x = new BathtubTides();
        x.addHardMoon(1, 0, 1);
        x.addHardMoon(1, 0, 1);
        x.removeMoon(0);
        for (int moon : new int[] {Integer.MIN_VALUE, -1, 1, 2, 5, Integer.MAX_VALUE}) {
            check.fails("removeMoon", INDEX, () -> x.removeMoon(moon));
            check.fails("positionOf", INDEX, () -> x.positionOf(moon));
            check.fails("massOf", INDEX, () -> x.massOf(moon));
            check.fails("ageOf", INDEX, () -> x.ageOf(moon));
            check.fails("isHard", INDEX, () -> x.isHard(moon));
            check.fails("isSoft", INDEX, () -> x.isSoft(moon));
            check.fails("isEclipsed", INDEX, () -> x.isEclipsed(moon));
        }
        check.same("unchanged", 1, x.moonCount());
        check.same("only the good calls can be undone", 2, x.undo());
    }
}
