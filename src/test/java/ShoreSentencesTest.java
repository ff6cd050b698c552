import java.util.NoSuchElementException;

/** A test for each sentence of promises 13 to 26 that names a boundary case. */
final class ShoreSentencesTest {
    private static final Class<IllegalArgumentException> ARGUMENT = IllegalArgumentException.class;
    private static final Class<IllegalStateException> STATE = IllegalStateException.class;
    private static final Class<IndexOutOfBoundsException> INDEX = IndexOutOfBoundsException.class;
    private static final Class<NoSuchElementException> NO_SUCH = NoSuchElementException.class;
    private static final String POSITION = "`position`: the position, 0 to 11";
    private static final String NO_POSITION = "Throws `IndexOutOfBoundsException` if there is no such position";
    private static final String NO_TOWEL = "Throws `IndexOutOfBoundsException` if there is no such towel";

    private ShoreSentencesTest() {
    }

    public static void main(String[] args) {
        Sentences s = Sentences.run("ShoreSentencesTest");
        tell(s);
        s.close();
    }

    static void tell(Sentences s) {
        placeToe(s);
        removeToe(s);
        hasToe(s);
        insertPlug(s);
        pullPlug(s);
        plugPosition(s);
        layTowel(s);
        removeTowel(s);
        wringTowel(s);
        towelQuestions(s);
    }

    private static void placeToe(Sentences s) {
        s.of("Promise 13: placeToe");
        s.says(POSITION, check -> {
            for (int position = 0; position <= 11; position++) {
                BathtubTides x = new BathtubTides();
                check.same("at " + position, 1, x.placeToe(position));
                for (int other = 0; other <= 11; other++) {
                    check.same("toe at " + other, other == position, x.hasToe(other));
                }
            }
        });
        s.says("Returns the number of toes.", check -> {
            BathtubTides x = new BathtubTides();
            for (int toes = 1; toes <= 4; toes++) {
                check.same("toes", toes, x.placeToe(12 - toes));
            }
            x.removeToe(11);
            x.removeToe(10);
            check.same("after two were removed", 3, x.placeToe(0));
            for (Tubs.Adder kind : Tubs.KINDS) {
                BathtubTides y = new BathtubTides();
                kind.add(y, 1, 0, 1);
                y.layTowel(1, 0);
                y.insertPlug(2);
                check.same("a moon, a towel and the plug are no toes", 1, y.placeToe(11));
            }
        });
        s.says(NO_POSITION, check -> {
            Tubs.noSuchPosition(check, (x, position) -> x.placeToe(position));
            check.refuses("no such position for a fifth toe", INDEX, () -> Tubs.withToes(4), x -> x.placeToe(12));
        });
        s.says("Throws `IllegalStateException` if there is a toe at the position, or there are 4 toes", check -> {
            for (int position : new int[] {0, 3, 6, 9}) {
                check.refuses("a toe is at " + position, STATE, () -> Tubs.withToes(4), x -> x.placeToe(position));
            }
            check.refuses("a toe is at 0", STATE, () -> Tubs.withToes(1), x -> x.placeToe(0));
            check.same("3 toes", 4, Tubs.withToes(3).placeToe(11));
            for (int position : new int[] {1, 11}) {
                check.refuses("4 toes", STATE, () -> Tubs.withToes(4), x -> x.placeToe(position));
            }
            BathtubTides x = Tubs.withToes(4);
            x.removeToe(9);
            check.same("3 toes again", 4, x.placeToe(9));
        });
    }

    private static void removeToe(Sentences s) {
        s.of("Promise 14: removeToe");
        s.says(POSITION, check -> {
            for (int position = 0; position <= 11; position++) {
                BathtubTides x = new BathtubTides();
                x.placeToe(position);
                x.placeToe((position + 1) % 12);
                check.same("at " + position, 1, x.removeToe(position));
                check.same("gone", false, x.hasToe(position));
                check.same("the other one stays", true, x.hasToe((position + 1) % 12));
            }
        });
        s.says("Returns the number of toes that are left.", check -> {
            BathtubTides x = Tubs.withToes(4);
            for (int left = 3; left >= 0; left--) {
                check.same("left", left, x.removeToe(3 * left));
            }
        });
        s.says(NO_POSITION, check -> {
            Tubs.noSuchPosition(check, (x, position) -> x.removeToe(position));
            check.refuses("without toes", INDEX, BathtubTides::new, x -> x.removeToe(12));
        });
        s.says("Throws `IllegalStateException` if there is no toe at the position", check -> {
            check.refuses("none at all", STATE, BathtubTides::new, x -> x.removeToe(0));
            check.refuses("none there", STATE, () -> Tubs.withToes(4), x -> x.removeToe(11));
            check.refuses("none there", STATE, () -> Tubs.withToes(4), x -> x.removeToe(1));
            BathtubTides x = Tubs.withToes(1);
            x.removeToe(0);
            check.fails("no longer", STATE, () -> x.removeToe(0));
        });
    }

    private static void hasToe(Sentences s) {
        s.of("Promise 15: hasToe");
        s.says(POSITION, check -> {
            BathtubTides x = new BathtubTides();
            x.placeToe(0);
            x.placeToe(11);
            for (int position = 0; position <= 11; position++) {
                check.same("at " + position, position == 0 || position == 11, x.hasToe(position));
            }
        });
        s.says(NO_POSITION, check -> Tubs.noSuchPosition(check, (x, position) -> x.hasToe(position)));
    }

    private static void insertPlug(Sentences s) {
        s.of("Promise 16: insertPlug");
        s.says("Inserts the plug, or moves it to another position.", check -> {
            BathtubTides x = new BathtubTides();
            x.addHardMoon(1, 6, 12);
            x.insertPlug(0);
            check.same("inserted", "0 true", x.plugPosition() + " " + x.isEclipsed(0));
            x.insertPlug(11);
            check.same("there is only one", "11 false", x.plugPosition() + " " + x.isEclipsed(0));
            x.insertPlug(11);
            check.same("where it is", 11, x.plugPosition());
            x.pullPlug();
            check.fails("pulled once, it is gone", STATE, () -> x.pullPlug());
        });
        s.says(POSITION, check -> {
            for (int position = 0; position <= 11; position++) {
                BathtubTides x = new BathtubTides();
                check.same("at " + position, true, x.insertPlug(position));
                check.same("position", position, x.plugPosition());
            }
        });
        s.says("Returns whether there was no plug before.", check -> {
            BathtubTides x = new BathtubTides();
            check.same("the first time", true, x.insertPlug(0));
            check.same("moved from 0", false, x.insertPlug(5));
            check.same("where it is", false, x.insertPlug(5));
            check.same("moved back to 0", false, x.insertPlug(0));
            x.pullPlug();
            check.same("after it was pulled", true, x.insertPlug(0));
        });
        s.says(NO_POSITION, check -> {
            Tubs.noSuchPosition(check, (x, position) -> x.insertPlug(position));
            BathtubTides x = new BathtubTides();
            check.fails("without a plug", INDEX, () -> x.insertPlug(12));
            check.fails("still without one", NO_SUCH, () -> x.plugPosition());
        });
    }

    private static void pullPlug(Sentences s) {
        s.of("Promise 17: pullPlug");
        s.says("Returns its position.", check -> {
            for (int position = 0; position <= 11; position++) {
                BathtubTides x = new BathtubTides();
                x.insertPlug(position);
                check.same("position", position, x.pullPlug());
            }
        });
        s.says("Throws `IllegalStateException` if there is no plug", check -> {
            check.refuses("at first", STATE, BathtubTides::new, x -> x.pullPlug());
            BathtubTides x = Tubs.busy();
            x.pullPlug();
            check.fails("pulled twice", STATE, () -> x.pullPlug());
            x.undo();
            check.same("it is back", 8, x.pullPlug());
        });
    }

    private static void plugPosition(Sentences s) {
        s.of("Promise 18: plugPosition");
        s.says("Throws `NoSuchElementException` if there is no plug", check -> {
            check.refuses("at first", NO_SUCH, BathtubTides::new, x -> x.plugPosition());
            BathtubTides x = Tubs.busy();
            check.same("there is one", 8, x.plugPosition());
            x.pullPlug();
            check.fails("pulled", NO_SUCH, () -> x.plugPosition());
            x.insertPlug(0);
            check.same("at 0", 0, x.plugPosition());
        });
    }

    private static void layTowel(Sentences s) {
        s.of("Promise 19: layTowel");
        s.says("`position`: its position, 0 to 11", check -> {
            for (int position = 0; position <= 11; position++) {
                BathtubTides x = new BathtubTides();
                check.same("at " + position, 0, x.layTowel(position, 0));
                check.same("position", position, x.shoreOf(0));
            }
        });
        s.says("`height`: its height, 0 to 60", check -> {
            for (int height : new int[] {0, 1, 59, 60}) {
                BathtubTides x = new BathtubTides();
                check.same("height " + height, 0, x.layTowel(0, height));
                check.same("height", height, x.heightOf(0));
            }
        });
        s.says("Returns the number of the towel.", check -> {
            for (int towels = 0; towels < 4; towels++) {
                BathtubTides x = Tubs.withTowels(towels);
                check.same("with " + towels + " towels before", towels, x.layTowel(11, 59));
                check.same("its height", 59, x.heightOf(towels));
            }
        });
        s.says(NO_POSITION, check -> {
            Tubs.noSuchPosition(check, (x, position) -> x.layTowel(position, 0));
            Tubs.noSuchPosition(check, (x, position) -> x.layTowel(position, 61));
            check.refuses("no such position for a fifth towel", INDEX, () -> Tubs.withTowels(4),
                    x -> x.layTowel(12, 0));
        });
        s.says("Throws `IllegalArgumentException` if the height is out of range", check -> {
            for (int height : Tubs.outside(0, 60)) {
                check.refuses("height " + height, ARGUMENT, BathtubTides::new, x -> x.layTowel(0, height));
                check.refuses("height " + height + " where a towel is", ARGUMENT, () -> Tubs.withTowels(1),
                        x -> x.layTowel(0, height));
                check.refuses("height " + height + " with 4 towels", ARGUMENT, () -> Tubs.withTowels(4),
                        x -> x.layTowel(11, height));
            }
        });
        s.says("Throws `IllegalStateException` if there is a towel at the position, or there are 4 towels", check -> {
            check.refuses("a towel is at 0", STATE, () -> Tubs.withTowels(1), x -> x.layTowel(0, 60));
            for (int position : new int[] {0, 3, 6, 9}) {
                check.refuses("a towel is at " + position, STATE, () -> Tubs.withTowels(4),
                        x -> x.layTowel(position, 60));
            }
            check.same("3 towels", 3, Tubs.withTowels(3).layTowel(11, 60));
            for (int position : new int[] {1, 11}) {
                check.refuses("4 towels", STATE, () -> Tubs.withTowels(4), x -> x.layTowel(position, 60));
            }
            BathtubTides x = Tubs.withTowels(4);
            x.removeTowel(0);
            check.same("3 towels again", 3, x.layTowel(0, 60));
        });
    }

    private static void removeTowel(Sentences s) {
        s.of("Promise 20: removeTowel");
        s.says("Its water is returned like the water of a towel that is wrung.", check -> {
            int[] bases = {34, 35, 36, 39, 40, 0};
            for (int base : bases) {
                BathtubTides x = Tubs.withWetTowel(base);
                x.removeTowel(0);
                check.same("5 units at " + base, Math.min(40, base + 5), x.baseLevel());
                check.same("spilled", Math.max(0, base + 5 - 40), x.spilled());
                check.same("balanced", true, x.isBalanced());
            }
            BathtubTides dry = Tubs.withBase(40);
            dry.layTowel(0, 60);
            dry.removeTowel(0);
            check.same("a dry one", "40 0", dry.baseLevel() + " " + dry.spilled());
            BathtubTides two = new BathtubTides();
            two.layTowel(0, 60);
            two.layTowel(1, 0);
            two.advance(5);
            two.removeTowel(0);
            check.same("the other one's water stays in it", "15 5", two.baseLevel() + " " + two.absorbedBy(0));
        });
        s.says("Returns the number of towels that are left.", check -> {
            BathtubTides x = Tubs.withTowels(4);
            for (int left = 3; left >= 0; left--) {
                check.same("the first one goes", left, x.removeTowel(0));
                check.same("count", left, x.towelCount());
            }
            BathtubTides y = Tubs.withTowels(4);
            for (int left = 3; left >= 0; left--) {
                check.same("the last one goes", left, y.removeTowel(left));
            }
            check.same("not the water that was spilled", 0, Tubs.withWetTowel(40).removeTowel(0));
        });
        s.says(NO_TOWEL, check -> Tubs.noSuchTowel(check, (x, towel) -> x.removeTowel(towel)));
    }

    private static void wringTowel(Sentences s) {
        s.of("Promise 21: wringTowel");
        s.says("Wrings a towel: the water that it has absorbed is added to the base level, up to 40; the rest of it is "
                + "spilled.", check -> {
                    int[] absorbed = {4, 0, 2, 1};
                    for (int towel = 0; towel < 4; towel++) {
                        BathtubTides x = Tubs.withWetTowels();
                        x.wringTowel(towel);
                        for (int other = 0; other < 4; other++) {
                            check.same("this one, and no other", other == towel ? 0 : absorbed[other],
                                    x.absorbedBy(other));
                        }
                        check.same("its water", 13 + absorbed[towel], x.baseLevel());
                    }
                    for (int base : new int[] {0, 34, 35, 36, 39, 40}) {
                        BathtubTides x = Tubs.withWetTowel(base);
                        x.wringTowel(0);
                        check.same("5 units at " + base, Math.min(40, base + 5), x.baseLevel());
                        check.same("spilled", Math.max(0, base + 5 - 40), x.spilled());
                        check.same("it is dry", 0, x.absorbedBy(0));
                        check.same("balanced", true, x.isBalanced());
                        x.wringTowel(0);
                        check.same("nothing is left in it", Math.min(40, base + 5), x.baseLevel());
                        check.same("nor to be spilled", Math.max(0, base + 5 - 40), x.spilled());
                    }
                });
        s.says("Returns the units of water that were spilled.", check -> {
            int[][] due = {{34, 0}, {35, 0}, {36, 1}, {39, 4}, {40, 5}};
            for (int[] pair : due) {
                BathtubTides x = Tubs.withWetTowel(pair[0]);
                check.same("at " + pair[0], pair[1], x.wringTowel(0));
                check.same("a dry one", 0, x.wringTowel(0));
                check.same("spilled so far", pair[1], x.spilled());
            }
        });
        s.says(NO_TOWEL, check -> Tubs.noSuchTowel(check, (x, towel) -> x.wringTowel(towel)));
    }

    private static void towelQuestions(Sentences s) {
        s.of("Promise 22: towelCount");
        s.says("Returns the number of towels.", check -> {
            for (int towels = 0; towels <= 4; towels++) {
                check.same("count", towels, Tubs.withTowels(towels).towelCount());
            }
            BathtubTides x = Tubs.withTowels(4);
            check.fails("the fifth", STATE, () -> x.layTowel(11, 0));
            check.same("after a refused call", 4, x.towelCount());
            x.wringTowel(3);
            check.same("after wringing", 4, x.towelCount());
        });
        s.of("Promise 23: shoreOf");
        s.says(NO_TOWEL, check -> Tubs.noSuchTowel(check, (x, towel) -> x.shoreOf(towel)));
        s.of("Promise 24: heightOf");
        s.says(NO_TOWEL, check -> Tubs.noSuchTowel(check, (x, towel) -> x.heightOf(towel)));
        s.of("Promise 25: absorbedBy");
        s.says("Returns the units of water.", check -> {
            BathtubTides x = new BathtubTides();
            x.layTowel(0, 0);
            for (int absorbed = 0; absorbed <= 5; absorbed++) {
                check.same("absorbed", absorbed, x.absorbedBy(0));
                x.advance(1);
            }
            check.same("not more than 5", 5, x.absorbedBy(0));
            x.wringTowel(0);
            check.same("wrung", 0, x.absorbedBy(0));
        });
        s.says(NO_TOWEL, check -> Tubs.noSuchTowel(check, (x, towel) -> x.absorbedBy(towel)));
        s.of("Promise 26: floodsOf");
        s.says("Returns the number of floods of a towel so far.", check -> {
            BathtubTides x = new BathtubTides();
            x.layTowel(0, 0);
            check.same("none", 0, x.floodsOf(0));
            x.advance(60);
            check.same("5 before it is full", 5, x.floodsOf(0));
            x.wringTowel(0);
            x.advance(60);
            check.same("5 more", 10, x.floodsOf(0));
            x.removeTowel(0);
            x.layTowel(0, 0);
            check.same("none of a new one", 0, x.floodsOf(0));
        });
        s.says(NO_TOWEL, check -> Tubs.noSuchTowel(check, (x, towel) -> x.floodsOf(towel)));
    }
}
