import java.util.NoSuchElementException;

/** Promises 13 to 26: toes, plug and towels. */
final class ShoreTest {
    private static final Class<IllegalArgumentException> ARGUMENT = IllegalArgumentException.class;
    private static final Class<IllegalStateException> STATE = IllegalStateException.class;
    private static final Class<IndexOutOfBoundsException> INDEX = IndexOutOfBoundsException.class;
    private static final int[] NO_POSITIONS = {Integer.MIN_VALUE, -1, 12, 13, Integer.MAX_VALUE};
    private static final Check check = new Check("ShoreTest");

    public static void main(String[] args) {
        promises13To15Toes();
        promises16To18Plug();
        promise19LayTowel();
        promise20RemoveTowel();
        promise21Wring();
        promises23To26AskTowels();
        noSuchTowel();
        check.close();
    }

    private static void promises13To15Toes() {
        BathtubTides x = new BathtubTides();
        for (int position : NO_POSITIONS) {
            check.fails("placeToe", INDEX, () -> x.placeToe(position));
            check.fails("removeToe", INDEX, () -> x.removeToe(position));
            check.fails("hasToe", INDEX, () -> x.hasToe(position));
        }
        for (int position = 0; position < 12; position++) {
            int here = position;
            check.same("has", false, x.hasToe(position));
            check.fails("remove", STATE, () -> x.removeToe(here));
            check.same("place", 1, x.placeToe(position));
            check.same("has", true, x.hasToe(position));
            check.fails("twice", STATE, () -> x.placeToe(here));
            check.same("remove", 0, x.removeToe(position));
            check.same("has", false, x.hasToe(position));
        }
        check.same("first", 1, x.placeToe(11));
        check.same("second", 2, x.placeToe(0));
        check.same("third", 3, x.placeToe(5));
        check.same("fourth", 4, x.placeToe(6));
        check.fails("fifth", STATE, () -> x.placeToe(1));
        check.fails("again while there are 4", STATE, () -> x.placeToe(6));
        check.fails("the position comes first", INDEX, () -> x.placeToe(12));
        check.fails("no toe there", STATE, () -> x.removeToe(1));
        check.same("left", 3, x.removeToe(0));
        check.same("others stay", "true false true true",
                x.hasToe(11) + " " + x.hasToe(0) + " " + x.hasToe(5) + " " + x.hasToe(6));
        check.same("again", 4, x.placeToe(1));
        BathtubTides y = new BathtubTides();
        y.addSoftMoon(1, 0, 1);
        check.same("a moon is no toe", 1, y.placeToe(0));
        check.same("a moon is no toe", 0, y.removeToe(0));
    }

    private static void promises16To18Plug() {
        BathtubTides x = new BathtubTides();
        for (int position : NO_POSITIONS) {
            check.fails("insertPlug", INDEX, () -> x.insertPlug(position));
        }
        check.fails("plugPosition", NoSuchElementException.class, () -> x.plugPosition());
        check.fails("pullPlug", STATE, () -> x.pullPlug());
        check.same("first", true, x.insertPlug(0));
        check.same("where", 0, x.plugPosition());
        check.same("moved", false, x.insertPlug(11));
        check.same("where", 11, x.plugPosition());
        check.same("same place", false, x.insertPlug(11));
        check.fails("wrong place", INDEX, () -> x.insertPlug(12));
        check.same("where", 11, x.plugPosition());
        check.same("pull", 11, x.pullPlug());
        check.fails("plugPosition", NoSuchElementException.class, () -> x.plugPosition());
        check.fails("pull twice", STATE, () -> x.pullPlug());
        check.same("again", true, x.insertPlug(5));
        check.same("pull", 5, x.pullPlug());
        check.same("at 0", true, x.insertPlug(0));
        check.same("pull at 0", 0, x.pullPlug());
    }

    private static void promise19LayTowel() {
        BathtubTides x = new BathtubTides();
        for (int position : NO_POSITIONS) {
            check.fails("position", INDEX, () -> x.layTowel(position, 0));
            check.fails("the position comes first", INDEX, () -> x.layTowel(position, 61));
        }
        for (int height : new int[] {Integer.MIN_VALUE, -1, 61, Integer.MAX_VALUE}) {
            check.fails("height", ARGUMENT, () -> x.layTowel(0, height));
        }
        check.same("first", 0, x.layTowel(0, 60));
        check.fails("same position", STATE, () -> x.layTowel(0, 3));
        check.fails("the height comes before the towel", ARGUMENT, () -> x.layTowel(0, 61));
        check.same("second", 1, x.layTowel(11, 0));
        check.same("third", 2, x.layTowel(5, 60));
        check.same("fourth", 3, x.layTowel(4, 60));
        check.same("promise 22", 4, x.towelCount());
        check.fails("fifth", STATE, () -> x.layTowel(1, 60));
        check.fails("the height comes before the limit", ARGUMENT, () -> x.layTowel(1, -1));
        check.same("count", 4, x.towelCount());
        x.removeTowel(1);
        check.same("a free number again", 3, x.layTowel(11, 7));
        check.same("where", 11, x.shoreOf(3));
        check.same("height", 7, x.heightOf(3));
    }

    private static void promise20RemoveTowel() {
        BathtubTides x = new BathtubTides();
        x.layTowel(1, 0);
        x.layTowel(2, 18);
        x.layTowel(3, 60);
        check.same("floods", 6, x.advance(5));
        check.same("absorbed", "5 1 0", x.absorbedBy(0) + " " + x.absorbedBy(1) + " " + x.absorbedBy(2));
        check.same("base", 14, x.baseLevel());
        check.same("left", 2, x.removeTowel(0));
        check.same("its water is back", 19, x.baseLevel());
        check.same("spilled", 0, x.spilled());
        check.same("towels", "2 18 1 1", x.shoreOf(0) + " " + x.heightOf(0) + " " + x.absorbedBy(0) + " " + x.floodsOf(0));
        check.same("towels", "3 60 0 0", x.shoreOf(1) + " " + x.heightOf(1) + " " + x.absorbedBy(1) + " " + x.floodsOf(1));
        check.same("left", 1, x.removeTowel(1));
        check.same("left", 0, x.removeTowel(0));
        check.same("base", 20, x.baseLevel());
        check.same("a new towel is dry", 0, x.layTowel(2, 3));
        check.same("a new towel is dry", "0 0", x.absorbedBy(0) + " " + x.floodsOf(0));

        BathtubTides wet = new BathtubTides();
        wet.layTowel(1, 60);
        wet.layTowel(2, 0);
        wet.advance(4);
        wet.removeTowel(0);
        check.same("balanced", true, wet.isBalanced());
        check.same("the number of a wet towel that has moved down", 1, wet.layTowel(3, 60));
        check.same("its new towel is dry", "0 0", wet.absorbedBy(1) + " " + wet.floodsOf(1));
        check.same("the wet one stays wet", "2 4 4", wet.shoreOf(0) + " " + wet.absorbedBy(0) + " " + wet.floodsOf(0));

        BathtubTides y = full();
        check.same("left", 0, y.removeTowel(0));
        check.same("up to 40", 40, y.baseLevel());
        check.same("the rest is spilled", 3, y.spilled());
        check.same("balanced", true, y.isBalanced());
    }

    /** Base level 38, and a towel with 5 units. */
    private static BathtubTides full() {
        BathtubTides x = new BathtubTides();
        x.layTowel(0, 0);
        x.advance(10);
        x.setFlow(3);
        x.advance(60);
        x.advance(22);
        x.setFlow(2);
        x.advance(12);
        check.same("base of the full tub", 38, x.baseLevel());
        return x;
    }

    private static void promise21Wring() {
        BathtubTides x = full();
        check.same("spilled by it", 3, x.wringTowel(0));
        check.same("base", 40, x.baseLevel());
        check.same("spilled", 3, x.spilled());
        check.same("absorbed", 0, x.absorbedBy(0));
        check.same("the number of floods is kept", 5, x.floodsOf(0));
        check.same("dry", 0, x.wringTowel(0));
        check.same("spilled", 3, x.spilled());
        check.same("it absorbs again", 1, x.advance(1));
        check.same("floods", 6, x.floodsOf(0));
        check.same("what fits is not spilled", 0, x.wringTowel(0));
        check.same("balanced", true, x.isBalanced());
        x.advance(3);
        x.setFlow(3);
        x.advance(60);
        check.same("spilled by it", 5, x.wringTowel(0));
        check.same("spilled in all", 8, x.spilled());

        BathtubTides y = new BathtubTides();
        y.layTowel(3, 0);
        y.layTowel(9, 60);
        y.advance(3);
        check.same("wring", 0, y.wringTowel(0));
        check.same("towel stays", 2, y.towelCount());
        check.same("base", 20, y.baseLevel());
    }

    private static void promises23To26AskTowels() {
        BathtubTides x = new BathtubTides();
        for (int towel = 0; towel < 4; towel++) {
            x.layTowel(11 - 3 * towel, 20 * towel);
        }
        for (int towel = 0; towel < 4; towel++) {
            check.same("shore", 11 - 3 * towel, x.shoreOf(towel));
            check.same("height", 20 * towel, x.heightOf(towel));
            check.same("absorbed", 0, x.absorbedBy(towel));
            check.same("floods", 0, x.floodsOf(towel));
        }
        x.advance(2);
        check.same("absorbed", 2, x.absorbedBy(0));
        check.same("floods", 2, x.floodsOf(0));
        check.same("absorbed", 0, x.absorbedBy(1));
        x.advance(60);
        check.same("absorbed", 5, x.absorbedBy(0));
        check.same("floods", 5, x.floodsOf(0));
    }

    private static void noSuchTowel() {
        BathtubTides x = new BathtubTides();
        x.layTowel(0, 0);
        x.layTowel(1, 0);
        x.removeTowel(0);
        for (int towel : new int[] {Integer.MIN_VALUE, -1, 1, 2, 4, Integer.MAX_VALUE}) {
            check.fails("removeTowel", INDEX, () -> x.removeTowel(towel));
            check.fails("wringTowel", INDEX, () -> x.wringTowel(towel));
            check.fails("shoreOf", INDEX, () -> x.shoreOf(towel));
            check.fails("heightOf", INDEX, () -> x.heightOf(towel));
            check.fails("absorbedBy", INDEX, () -> x.absorbedBy(towel));
            check.fails("floodsOf", INDEX, () -> x.floodsOf(towel));
        }
        check.same("unchanged", 1, x.towelCount());
        check.same("only the good calls can be undone", 2, x.undo());
    }
}
