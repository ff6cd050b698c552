/** A test for each sentence of promises 43 to 48 that names a boundary case. */
final class LineSentencesTest {
    private static final Class<IndexOutOfBoundsException> INDEX = IndexOutOfBoundsException.class;

    private LineSentencesTest() {
    }

    public static void main(String[] args) {
        Sentences s = Sentences.run("LineSentencesTest");
        tell(s);
        s.close();
    }

    static void tell(Sentences s) {
        writeRim(s);
        writeMoon(s);
        lineAt(s);
        meanLevel(s);
        eclipsedShare(s);
        isBalanced(s);
    }

    /** The highest levels that there are, at position 0. */
    private static BathtubTides brimful() {
        BathtubTides x = Tubs.withBase(40);
        for (int moon = 0; moon < 5; moon++) {
            x.addHardMoon(6, 0, 12);
        }
        return x;
    }

    private static void writeRim(Sentences s) {
        s.of("Promise 43: writeRim");
        s.says("Writes the rim into the line, which replaces the previous line: for each position the level, \"t\" if "
                + "there is a toe, \"p\" if the plug is there, \"w\" if there is a towel, with a blank between two "
                + "positions; for example \"20 23tw 20p\".", check -> {
                    BathtubTides x = new BathtubTides();
                    check.same("a new tub", "20 20 20 20 20 20 20 20 20 20 20 20", Check.rim(x));
                    x.placeToe(0);
                    x.insertPlug(0);
                    x.layTowel(0, 60);
                    check.same("all at the first position", "20tpw 20 20 20 20 20 20 20 20 20 20 20", Check.rim(x));
                    x.placeToe(11);
                    x.insertPlug(11);
                    x.layTowel(11, 60);
                    check.same("all at the last one", "20tw 20 20 20 20 20 20 20 20 20 20 20tpw", Check.rim(x));
                    check.same("one digit", "0 0 0 0 0 0 0 0 0 0 0 0", Check.rim(Tubs.withBase(0)));
                    check.same("three digits, and none below 0", "130 100 70 40 10 0 0 0 10 40 70 100",
                            Check.rim(brimful()));
                    BathtubTides y = new BathtubTides();
                    y.placeToe(1);
                    y.addHardMoon(2, 1, 12);
                    y.addHardMoon(1, 7, 12);
                    y.layTowel(1, 60);
                    y.insertPlug(7);
                    check.same("an eclipsed moon does not pull", "18 19tw 18 19 20 21 22 23p 22 21 20 19", Check.rim(y));
                    y.writeMoon(0);
                    check.same("the previous line is replaced", 38, y.writeRim());
                    check.same("its first character", '1', y.lineAt(0));
                });
        s.says("Returns the length of the line.", check -> {
            check.same("a new tub", 35, new BathtubTides().writeRim());
            check.same("the shortest", 23, Tubs.withBase(0).writeRim());
            check.same("three digits", 35, brimful().writeRim());
            BathtubTides x = brimful();
            for (int i = 0; i < 4; i++) {
                x.placeToe(i);
                x.layTowel(i, 60);
            }
            x.insertPlug(0);
            int length = x.writeRim();
            check.same("with letters", 42, length);
            x.lineAt(length - 1);
            check.fails("behind it", INDEX, () -> x.lineAt(length));
            check.same("again", length, x.writeRim());
        });
    }

    private static void writeMoon(Sentences s) {
        s.of("Promise 44: writeMoon");
        s.says("Writes a moon into the line, which replaces the previous line: \"h\", \"s\" or \"b\" for its kind, its mass, "
                + "\"@\" and its position, and \"!\" if it is eclipsed; for example \"s4@11!\".", check -> {
                    BathtubTides x = new BathtubTides();
                    x.addSoftMoon(4, 11, 1);
                    x.addHardMoon(6, 0, 1);
                    x.addBubbleMoon(1, 5, 1);
                    x.insertPlug(5);
                    check.same("soft", "s4@11!", Check.moon(x, 0));
                    check.same("hard", "h6@0", Check.moon(x, 1));
                    check.same("bubble", "b1@5", Check.moon(x, 2));
                    x.advance(1);
                    check.same("from 11 to 0, eclipsed no more", "s4@0", Check.moon(x, 0));
                    check.same("no mass at an odd age", "b0@6", Check.moon(x, 2));
                    x.insertPlug(0);
                    check.same("eclipsed without mass", "b0@6!", Check.moon(x, 2));
                    x.advance(39);
                    check.same("no mass left", "s0@3", Check.moon(x, 0));
                    x.pullPlug();
                    check.same("no plug", "b1@9", Check.moon(x, 2));
                    x.writeRim();
                    check.same("the previous line is replaced", 4, x.writeMoon(2));
                    check.fails("nothing of it stays", INDEX, () -> x.lineAt(4));
                });
        s.says("Returns the length of the line.", check -> {
            BathtubTides x = new BathtubTides();
            x.addHardMoon(1, 9, 1);
            check.same("the shortest", 4, x.writeMoon(0));
            x.advance(1);
            check.same("two digits", 5, x.writeMoon(0));
            x.insertPlug(4);
            check.same("the longest", 6, x.writeMoon(0));
            check.same("its last character", '!', x.lineAt(5));
            check.fails("behind it", INDEX, () -> x.lineAt(6));
        });
        s.says("Throws `IndexOutOfBoundsException` if there is no such moon", check -> {
            Tubs.noSuchMoon(check, (x, moon) -> x.writeMoon(moon));
            BathtubTides x = Tubs.withMoons(1);
            x.writeMoon(0);
            check.fails("no such moon", INDEX, () -> x.writeMoon(1));
            check.same("the line stays", "h1@0", Check.line(x, 4));
        });
    }

    private static void lineAt(Sentences s) {
        s.of("Promise 45: lineAt");
        s.says("Returns a character of the line, which is empty at first.", check -> {
            for (int index : new int[] {Integer.MIN_VALUE, -1, 0, 1, Integer.MAX_VALUE}) {
                check.fails("index " + index, INDEX, () -> new BathtubTides().lineAt(index));
            }
            BathtubTides x = new BathtubTides();
            x.addHardMoon(1, 0, 1);
            x.addSoftMoon(1, 0, 1);
            x.advance(1);
            check.fails("no call but two writes it", INDEX, () -> x.lineAt(0));
        });
        s.says("`index`: index of the character, from 0", check -> {
            BathtubTides x = new BathtubTides();
            x.addHardMoon(5, 10, 1);
            x.writeMoon(0);
            check.same("the first", 'h', x.lineAt(0));
            check.same("the second", '5', x.lineAt(1));
            check.same("the last", '0', x.lineAt(4));
        });
        s.says("Throws `IndexOutOfBoundsException` if there is no such character", check -> {
            BathtubTides x = new BathtubTides();
            x.addHardMoon(2, 10, 1);
            x.writeRim();
            for (int index : new int[] {Integer.MIN_VALUE, -1, 35, 36, Integer.MAX_VALUE}) {
                check.fails("the rim at " + index, INDEX, () -> x.lineAt(index));
            }
            check.same("the last of the rim", '4', x.lineAt(34));
            x.writeMoon(0);
            for (int index : new int[] {Integer.MIN_VALUE, -1, 5, 6, 34, Integer.MAX_VALUE}) {
                check.fails("the moon at " + index, INDEX, () -> x.lineAt(index));
            }
            check.same("the line stays", "h2@10", Check.line(x, 5));
        });
    }

    private static void meanLevel(Sentences s) {
        s.of("Promise 46: meanLevel");
        s.says("Returns the sum of the levels of all positions divided by 12, both converted to double.", check -> {
            check.same("a new tub", 20.0, new BathtubTides().meanLevel());
            check.same("an empty one", 0.0, Tubs.withBase(0).meanLevel());
            BathtubTides x = Tubs.withBase(0);
            x.addHardMoon(1, 0, 12);
            check.same("no level below 0: 3 + 2 + 2 + 1 + 1", 9.0 / 12.0, x.meanLevel());
            x.placeToe(0);
            check.same("not rounded", 7.0 / 12.0, x.meanLevel());
            x.insertPlug(6);
            check.same("eclipsed", 0.0, x.meanLevel());
            check.same("the fullest", 570.0 / 12.0, brimful().meanLevel());
        });
    }

    private static void eclipsedShare(Sentences s) {
        s.of("Promise 47: eclipsedShare");
        s.says("Returns their number divided by the number of moons, both converted to float.", check -> {
            for (int moons = 1; moons <= 5; moons++) {
                for (int eclipsed = 0; eclipsed <= moons; eclipsed++) {
                    BathtubTides x = new BathtubTides();
                    for (int moon = 0; moon < moons; moon++) {
                        Tubs.KINDS.get(moon % 3).add(x, 1, moon < eclipsed ? 6 : 5, 1);
                    }
                    check.same("no plug", 0f, x.eclipsedShare());
                    x.insertPlug(0);
                    check.same(eclipsed + " of " + moons, (float) eclipsed / (float) moons, x.eclipsedShare());
                }
            }
        });
        s.says("Throws `ArithmeticException` if there are no moons", check -> {
            check.refuses("a new tub", ArithmeticException.class, BathtubTides::new, x -> x.eclipsedShare());
            BathtubTides x = Tubs.withMoons(1);
            x.insertPlug(6);
            check.same("one moon", 1f, x.eclipsedShare());
            x.removeMoon(0);
            check.fails("the last one was removed", ArithmeticException.class, () -> x.eclipsedShare());
        });
    }

    private static void isBalanced(Sentences s) {
        s.of("Promise 48: isBalanced");
        s.says("Returns whether the water balances and the predictions agree: the initial base level of 20 plus all changes "
                + "by the taps equals the base level plus the water in all towels plus the spilled water, and tideIn and "
                + "tideBySteps agree for all positions and 0, 1, 5 and 20 minutes.", check -> {
                    check.same("a new tub", true, new BathtubTides().isBalanced());
                    BathtubTides empty = Tubs.withBase(0);
                    empty.setFlow(-3);
                    empty.advance(60);
                    check.same("an empty tub with running taps", true, empty.isBalanced());
                    BathtubTides full = Tubs.withBase(39);
                    full.setFlow(3);
                    full.advance(60);
                    check.same("a full tub with running taps", true, full.isBalanced());
                    BathtubTides wet = Tubs.withWetTowel(36);
                    check.same("5 units in a towel", true, wet.isBalanced());
                    wet.wringTowel(0);
                    check.same("one unit spilled", true, wet.isBalanced());
                    wet.advance(1);
                    wet.removeTowel(0);
                    check.same("none in a towel", true, wet.isBalanced());
                    wet.undo();
                    wet.undo();
                    wet.undo();
                    check.same("undone", true, wet.isBalanced());
                    BathtubTides towels = Tubs.withWetTowels();
                    for (int left = 4; left > 0; left--) {
                        towels.removeTowel(0);
                        check.same("left: " + (left - 1), true, towels.isBalanced());
                    }
                    BathtubTides moons = Tubs.full();
                    for (int minutes = 0; minutes < 30; minutes++) {
                        check.same("5 moons, 4 toes and 4 towels", true, moons.isBalanced());
                        moons.advance(1);
                    }
                    moons.restore();
                    check.same("restored", true, moons.isBalanced());
                });
    }
}
