import java.util.ArrayList;
import java.util.List;
import java.util.NoSuchElementException;

/** A test for each sentence of "Terms, Undo", "Terms, Exceptions" and promises 53 to 55 that names a boundary case. */
final class UndoSentencesTest {
    private static final Class<IllegalArgumentException> ARGUMENT = IllegalArgumentException.class;
    private static final Class<IllegalStateException> STATE = IllegalStateException.class;
    private static final Class<IndexOutOfBoundsException> INDEX = IndexOutOfBoundsException.class;
    private static final Class<NoSuchElementException> NO_SUCH = NoSuchElementException.class;

    private UndoSentencesTest() {
    }

    public static void main(String[] args) {
        Sentences s = Sentences.run("UndoSentencesTest");
        tell(s);
        s.close();
    }

    static void tell(Sentences s) {
        termsUndo(s);
        termsExceptions(s);
        undo(s);
        save(s);
        restore(s);
    }

    private static BathtubTides after(int modifications) {
        BathtubTides x = new BathtubTides();
        for (int i = 0; i < modifications; i++) {
            x.advance(i + 1);
        }
        return x;
    }

    private static void termsUndo(Sentences s) {
        s.of("Terms, Undo");
        s.says("The last 8 successful modifications can be undone.", check -> {
            for (int modifications = 0; modifications <= 17; modifications++) {
                BathtubTides x = after(modifications);
                int undone = 0;
                while (undone < Math.min(8, modifications)) {
                    x.undo();
                    undone++;
                    int left = modifications - undone;
                    check.same(undone + " of " + modifications + " undone", left * (left + 1) / 2, x.time());
                }
                check.fails("one more of " + modifications, STATE, () -> x.undo());
                check.fails("and one more", STATE, () -> x.undo());
            }
            BathtubTides wet = Tubs.withWetTowels();
            for (int times = 0; times < 8; times++) {
                wet.wringTowel(3);
                wet.advance(1);
            }
            for (int times = 0; times < 4; times++) {
                check.same("floods of the last towel", 9 - times, wet.floodsOf(3));
                wet.undo();
                wet.undo();
            }
        });
        s.says("The modifications are the successful calls of addHardMoon, addSoftMoon, addBubbleMoon, removeMoon, placeToe, "
                + "removeToe, insertPlug, pullPlug, layTowel, removeTowel, wringTowel, setFlow, advance and execute.",
                check -> {
                    everyModification(check);
                    nothingElse(check);
                });
        s.says("The text buffer, the error position, the index of the failed command and the line are not part of the state "
                + "that is undone, saved or restored.", check -> {
                    notUndone(check);
                    notSavedOrRestored(check);
                });
    }

    private static void everyModification(Check check) {
        Check.Asking[] calls = {x -> x.addHardMoon(1, 0, 1), x -> x.addSoftMoon(6, 11, 12), x -> x.addBubbleMoon(1, 0, 1),
            x -> x.removeMoon(0), x -> x.removeMoon(2), x -> x.placeToe(0), x -> x.removeToe(4), x -> x.insertPlug(0),
            x -> x.insertPlug(8), x -> x.pullPlug(), x -> x.layTowel(0, 0), x -> x.removeTowel(0), x -> x.removeTowel(1),
            x -> x.wringTowel(0), x -> x.wringTowel(1), x -> x.setFlow(3), x -> x.setFlow(2), x -> x.advance(1),
            x -> x.advance(60), x -> Check.execute(x, "wait 1"),
            x -> Check.execute(x, "toe 0;toe 1;pull;wring 0;remove 0;wait 60")};
        for (int i = 0; i < calls.length; i++) {
            BathtubTides x = Tubs.busy();
            String before = Check.all(x);
            calls[i].of(x);
            check.same("modification " + i + " is one", 0, x.undo());
            check.same("modification " + i + " is undone", before, Check.all(x));
            check.fails("modification " + i + " is only one", STATE, () -> x.undo());
        }
    }

    private static void nothingElse(Check check) {
        Check.Asking[] calls = {x -> x.moonCount(), x -> x.writeRim(), x -> x.writeMoon(0), x -> x.type('t'),
            x -> x.save(), x -> x.restore(), x -> x.isBalanced(), x -> x.tideBySteps(0, 144), x -> x.highTideIn(0),
            x -> x.conjunctionByMoves(0, 1), x -> x.eclipseIn(0)};
        for (int i = 0; i < calls.length; i++) {
            BathtubTides x = Tubs.busy();
            calls[i].of(x);
            check.fails("call " + i + " is none", STATE, () -> x.undo());
        }
        BathtubTides full = Tubs.full();
        check.fails("refused", ARGUMENT, () -> full.addHardMoon(0, 0, 1));
        check.fails("refused", STATE, () -> full.addHardMoon(1, 0, 1));
        check.fails("refused", STATE, () -> full.addSoftMoon(1, 0, 1));
        check.fails("refused", STATE, () -> full.addBubbleMoon(1, 0, 1));
        check.fails("refused", INDEX, () -> full.removeMoon(5));
        check.fails("refused", STATE, () -> full.placeToe(0));
        check.fails("refused", STATE, () -> full.removeToe(0));
        check.fails("refused", INDEX, () -> full.insertPlug(12));
        check.fails("refused", STATE, () -> full.layTowel(1, 0));
        check.fails("refused", INDEX, () -> full.removeTowel(4));
        check.fails("refused", INDEX, () -> full.wringTowel(4));
        check.fails("refused", ARGUMENT, () -> full.setFlow(4));
        check.fails("refused", ARGUMENT, () -> full.advance(0));
        check.fails("refused", ARGUMENT, () -> Check.execute(full, "wait 1;"));
        check.fails("refused", STATE, () -> Check.execute(full, "wait 1;wait 0"));
        check.fails("no refused call is one", STATE, () -> full.undo());
        BathtubTides x = new BathtubTides();
        check.fails("refused", STATE, () -> x.pullPlug());
        check.fails("no refused call is one", STATE, () -> x.undo());
        BathtubTides eight = after(8);
        check.fails("refused", STATE, () -> Check.execute(eight, "wait 1;toe 1;toe 1"));
        check.fails("refused", STATE, () -> eight.pullPlug());
        check.same("nor does it push one out", 7, eight.undo());
    }

    private static void notUndone(Check check) {
        BathtubTides x = Tubs.busy();
        Tubs.verdict(x, "toe 4");
        Tubs.verdict(x, "toe x");
        x.advance(1);
        x.advance(1);
        Check.type(x, "toe 1;to");
        String rim = Check.rim(x);
        x.undo();
        check.same("the line is as it was written last", rim, Check.line(x, rim.length()));
        x.writeMoon(0);
        x.undo();
        check.same("the line is as it was written last", 'h', x.lineAt(0));
        check.same("the buffer", 9, x.type('e'));
        check.same("the error position", 4, x.errorPosition());
        check.same("the failed command", 0, x.failedCommand());
        Check.type(x, " 2");
        check.same("the buffer is executed", 2, x.execute());
        x.undo();
        check.same("an executed text does not come back", 1, x.type('t'));
    }

    private static void notSavedOrRestored(Check check) {
        BathtubTides x = Tubs.busy();
        Check.type(x, "to");
        x.save();
        check.same("save leaves the buffer", 3, x.type('e'));
        Check.type(x, " x");
        check.fails("malformed", ARGUMENT, () -> x.execute());
        check.fails("fails", STATE, () -> Check.execute(x, "wait 1;toe 4"));
        x.writeMoon(0);
        Check.type(x, "toe ");
        x.restore();
        check.same("restore leaves the buffer", 5, x.type('1'));
        check.same("restore leaves the error position", 4, x.errorPosition());
        check.same("restore leaves the failed command", 1, x.failedCommand());
        check.same("restore leaves the line", 'h', x.lineAt(0));
        x.save();
        check.same("the buffer is executed", 1, x.execute());
        check.fails("malformed", ARGUMENT, () -> x.execute());
        x.writeRim();
        x.restore();
        check.same("an executed text does not come back", 1, x.type('t'));
        check.same("nor does an error position", 0, x.errorPosition());
        check.same("nor does a line", true, Character.isDigit(x.lineAt(0)));
    }

    private static void termsExceptions(Sentences s) {
        s.of("Terms, Exceptions");
        s.says("A method that throws an exception leaves the state unchanged, except that execute empties the text buffer.",
                check -> {
                    everyRefusal(check);
                    whatIsLeft(check);
                });
        s.says("If several exceptions apply, the one that is documented first is thrown.", check -> {
            for (Tubs.Adder kind : Tubs.KINDS) {
                check.fails("no such moon, and 5 moons", ARGUMENT, () -> kind.add(Tubs.full(), 0, 0, 1));
                check.fails("no such moon, and 5 moons", ARGUMENT, () -> kind.add(Tubs.full(), 1, 12, 1));
                check.fails("no such moon, and 5 moons", ARGUMENT, () -> kind.add(Tubs.full(), 1, 0, 13));
            }
            check.fails("no such position, and 4 toes", INDEX, () -> Tubs.full().placeToe(12));
            check.fails("no such position, and no toe there", INDEX, () -> Tubs.full().removeToe(-1));
            check.fails("position and height", INDEX, () -> new BathtubTides().layTowel(12, 61));
            check.fails("position, height and 4 towels", INDEX, () -> Tubs.full().layTowel(-1, -1));
            check.fails("position and 4 towels", INDEX, () -> Tubs.full().layTowel(12, 0));
            check.fails("height and 4 towels", ARGUMENT, () -> Tubs.full().layTowel(1, 61));
            check.fails("height and a towel there", ARGUMENT, () -> Tubs.withTowels(1).layTowel(0, 61));
            check.fails("position and minutes", INDEX, () -> Tubs.full().tideIn(12, 145));
            check.fails("position and minutes", INDEX, () -> Tubs.full().tideBySteps(-1, -1));
            check.fails("no such moon, and no plug", INDEX, () -> new BathtubTides().eclipseIn(0));
            check.fails("a wrong character, and 60 of them", ARGUMENT, () -> {
                BathtubTides x = new BathtubTides();
                Check.type(x, "x".repeat(60));
                return x.type((char) 127);
            });
            check.fails("malformed, and its first command fails", ARGUMENT,
                    () -> Check.execute(new BathtubTides(), "pull;"));
        });
        s.says("All divisions are integer divisions unless stated otherwise.", check -> {
            BathtubTides x = new BathtubTides();
            x.addBubbleMoon(5, 0, 12);
            x.addSoftMoon(6, 0, 12);
            x.placeToe(1);
            x.placeToe(7);
            x.advance(19);
            check.same("19 / 12", 1, x.positionOf(0));
            check.same("5 / 2", 2, x.massOf(0));
            check.same("19 / 10", 5, x.massOf(1));
            check.same("21 / 2", 10, x.tideAt(1));
            check.same("-21 / 2", -10, x.tideAt(7));
            check.same("stated otherwise", 239.0 / 12.0 + 1.0 / 12.0, x.meanLevel());
            x.insertPlug(7);
            x.addHardMoon(1, 0, 12);
            check.same("stated otherwise", 2f / 3f, x.eclipsedShare());
        });
    }

    /** Each method that throws, with each of its exceptions, in a full tub or in a new one. */
    private static void everyRefusal(Check check) {
        List<Check.Asking> inFull = new ArrayList<>(List.of(x -> x.addHardMoon(7, 0, 1), x -> x.addHardMoon(1, 0, 1),
                x -> x.addSoftMoon(1, 12, 1), x -> x.addSoftMoon(1, 0, 1), x -> x.addBubbleMoon(1, 0, 0),
                x -> x.addBubbleMoon(1, 0, 1), x -> x.removeMoon(5), x -> x.positionOf(5), x -> x.massOf(5),
                x -> x.ageOf(5), x -> x.isHard(5), x -> x.isSoft(5), x -> x.isEclipsed(5), x -> x.placeToe(12),
                x -> x.placeToe(1), x -> x.placeToe(0), x -> x.removeToe(12), x -> x.removeToe(0), x -> x.hasToe(12),
                x -> x.insertPlug(12), x -> x.layTowel(12, 0), x -> x.layTowel(1, 61), x -> x.layTowel(0, 0),
                x -> x.layTowel(1, 0), x -> x.removeTowel(4), x -> x.wringTowel(4), x -> x.shoreOf(4)));
        inFull.addAll(List.of(x -> x.heightOf(4), x -> x.absorbedBy(4), x -> x.floodsOf(4), x -> x.setFlow(4),
                x -> x.advance(61), x -> x.tideAt(12), x -> x.levelAt(12), x -> x.tideIn(12, 0), x -> x.tideIn(0, 145),
                x -> x.tideBySteps(12, 0), x -> x.tideBySteps(0, 145), x -> x.highTideIn(12), x -> x.lowTideIn(12),
                x -> x.eclipseIn(5), x -> x.conjunctionIn(0, 5), x -> x.conjunctionByMoves(5, 0), x -> x.writeMoon(5),
                x -> x.lineAt(99), x -> x.type((char) 127), x -> x.execute(), x -> Check.execute(x, "wait 1;wait 0"),
                x -> x.errorPosition(), x -> x.failedCommand(), x -> x.undo()));
        for (int i = 0; i < inFull.size(); i++) {
            unchanged(check, "full tub, call " + i, Tubs.full(), inFull.get(i));
        }
        List<Check.Asking> inNew = List.of(x -> x.pullPlug(), x -> x.plugPosition(), x -> x.eclipsedShare(),
                x -> x.undo(), x -> x.restore(), x -> x.removeToe(0));
        for (int i = 0; i < inNew.size(); i++) {
            unchanged(check, "new tub, call " + i, new BathtubTides(), inNew.get(i));
        }
    }

    private static void unchanged(Check check, String what, BathtubTides x, Check.Asking asking) {
        String before = Check.all(x);
        boolean thrown = false;
        try {
            asking.of(x);
        } catch (RuntimeException due) {
            thrown = true;
        }
        check.same(what + " throws", true, thrown);
        check.same("the state after " + what, before, Check.all(x));
    }

    /** Buffer, line, error position, failed command, history and snapshot. */
    private static void whatIsLeft(Check check) {
        BathtubTides x = new BathtubTides();
        x.save();
        x.advance(1);
        x.addHardMoon(1, 0, 1);
        Tubs.verdict(x, "toe x");
        Tubs.verdict(x, "wait 1;pull");
        x.writeMoon(0);
        Check.type(x, "toe ");
        check.fails("type", ARGUMENT, () -> x.type((char) 31));
        check.fails("writeMoon", INDEX, () -> x.writeMoon(1));
        check.fails("placeToe", INDEX, () -> x.placeToe(12));
        check.same("the buffer", 5, x.type('1'));
        check.same("the line", "h1@0", Check.line(x, 4));
        check.same("the error position", 4, x.errorPosition());
        check.same("the failed command", 1, x.failedCommand());
        check.same("the buffer was whole", 1, x.execute());
        check.same("the history", 2, x.undo());
        check.same("the history", 1, x.undo());
        check.fails("malformed", ARGUMENT, () -> Check.execute(x, "wait"));
        check.same("execute empties the buffer", 1, x.type('p'));
        Check.type(x, "ull");
        check.fails("fails", STATE, () -> x.execute());
        check.same("execute empties the buffer", 1, x.type('p'));
        check.same("the line is still there", 'h', x.lineAt(0));
        check.same("the history", 0, x.undo());
        check.fails("undo", STATE, () -> x.undo());
        check.same("the snapshot", 0, x.restore());
    }

    private static void undo(Sentences s) {
        s.of("Promise 53: undo");
        s.says("Undoes the last modification that can be undone.", check -> {
            BathtubTides x = after(9);
            x.undo();
            check.same("the last one", 36, x.time());
            for (int i = 0; i < 7; i++) {
                x.undo();
            }
            check.same("the first one stays", 1, x.time());
            x.advance(60);
            x.undo();
            check.same("a new one after them", 1, x.time());
            check.fails("none is left", STATE, () -> x.undo());
        });
        s.says("Returns the number of modifications that can still be undone.", check -> {
            for (int modifications = 1; modifications <= 12; modifications++) {
                BathtubTides x = after(modifications);
                for (int left = Math.min(8, modifications) - 1; left >= 0; left--) {
                    check.same("of " + modifications, left, x.undo());
                }
                x.advance(1);
                check.same("a new one is the only one", 0, x.undo());
            }
        });
        s.says("Throws `IllegalStateException` if there is none", check -> {
            check.refuses("at first", STATE, BathtubTides::new, x -> x.undo());
            check.refuses("restored", STATE, Tubs::busy, x -> x.undo());
            BathtubTides one = after(1);
            check.same("the only one", 0, one.undo());
            check.fails("undone", STATE, () -> one.undo());
            BathtubTides nine = after(9);
            for (int i = 0; i < 8; i++) {
                nine.undo();
            }
            check.fails("the ninth", STATE, () -> nine.undo());
            check.same("it stays", 1, nine.time());
        });
    }

    private static void save(Sentences s) {
        s.of("Promise 54: save");
        s.says("Saves the state as a snapshot, which replaces an earlier snapshot.", check -> {
            BathtubTides x = new BathtubTides();
            x.save();
            x.advance(1);
            x.save();
            x.advance(1);
            x.restore();
            check.same("the later one", 1, x.time());
            x.save();
            x.restore();
            check.same("the state of now", 1, x.time());
            BathtubTides busy = Tubs.busy();
            busy.save();
            String before = Check.all(busy);
            busy.removeMoon(0);
            busy.removeTowel(0);
            busy.pullPlug();
            busy.removeToe(4);
            busy.setFlow(-3);
            busy.advance(60);
            busy.restore();
            check.same("the whole state", before, Check.all(busy));
        });
        s.says("Returns the number of moons.", check -> {
            for (int moons = 0; moons <= 5; moons++) {
                check.same("moons", moons, Tubs.withMoons(moons).save());
            }
        });
    }

    private static void restore(Sentences s) {
        s.of("Promise 55: restore");
        s.says("Restores the snapshot, which is kept.", check -> {
            BathtubTides x = new BathtubTides();
            x.advance(7);
            x.save();
            for (int times = 0; times < 3; times++) {
                x.advance(60);
                x.restore();
                check.same("time", 7, x.time());
                x.restore();
                check.same("again at once", 7, x.time());
            }
            x.advance(1);
            x.undo();
            x.advance(2);
            x.restore();
            check.same("undo leaves it", 7, x.time());
        });
        s.says("Afterwards nothing can be undone.", check -> {
            for (int modifications : new int[] {0, 1, 8, 9}) {
                BathtubTides x = after(modifications);
                x.save();
                x.restore();
                check.fails("after " + modifications, STATE, () -> x.undo());
                x.advance(1);
                check.same("but what comes later", 0, x.undo());
                check.fails("nothing before it", STATE, () -> x.undo());
            }
        });
        s.says("Returns the number of moons.", check -> {
            for (int moons = 0; moons <= 5; moons++) {
                BathtubTides x = Tubs.withMoons(moons);
                x.save();
                if (moons < 5) {
                    x.addHardMoon(1, 0, 1);
                } else {
                    x.removeMoon(0);
                }
                check.same("those of the snapshot", moons, x.restore());
                check.same("count", moons, x.moonCount());
            }
        });
        s.says("Throws `IllegalStateException` if there is no snapshot", check -> {
            check.refuses("at first", STATE, BathtubTides::new, x -> x.restore());
            BathtubTides x = after(9);
            check.fails("without a snapshot", STATE, () -> x.restore());
            check.same("the time stays", 45, x.time());
            check.same("what can be undone stays", 7, x.undo());
            x.save();
            check.same("with a snapshot", 0, x.restore());
        });
    }
}
