import java.util.ArrayList;
import java.util.List;

/** Promises 53 to 55: undo and snapshots. */
final class UndoTest {
    private static final Class<IllegalArgumentException> ARGUMENT = IllegalArgumentException.class;
    private static final Class<IllegalStateException> STATE = IllegalStateException.class;
    private static final Check check = new Check("UndoTest");

    private interface Step {
        void take(BathtubTides x);
    }

    public static void main(String[] args) {
        promise53EachModification();
        promise53TheLast8();
        promise53NoModification();
        promise53ThenOn();
        promises54And55Snapshot();
        promise55EachField();
        check.close();
    }

    private static BathtubTides busy() {
        BathtubTides x = new BathtubTides();
        x.addHardMoon(3, 2, 2);
        x.addSoftMoon(5, 7, 3);
        x.addBubbleMoon(5, 9, 4);
        x.placeToe(4);
        x.insertPlug(8);
        x.layTowel(3, 0);
        x.layTowel(5, 19);
        x.setFlow(2);
        x.advance(31);
        return x;
    }

    private static List<Step> modifications() {
        List<Step> steps = new ArrayList<>();
        steps.add(x -> x.addHardMoon(2, 1, 3));
        steps.add(x -> x.removeMoon(1));
        steps.add(x -> x.addSoftMoon(2, 1, 3));
        steps.add(x -> x.removeMoon(0));
        steps.add(x -> x.addBubbleMoon(2, 1, 3));
        steps.add(x -> x.placeToe(7));
        steps.add(x -> x.removeToe(4));
        steps.add(x -> x.insertPlug(2));
        steps.add(x -> x.insertPlug(2));
        steps.add(x -> x.setFlow(1));
        steps.add(x -> x.pullPlug());
        steps.add(x -> x.insertPlug(0));
        steps.add(x -> x.wringTowel(0));
        steps.add(x -> x.layTowel(11, 20));
        steps.add(x -> x.advance(60));
        steps.add(x -> x.removeTowel(0));
        steps.add(x -> x.setFlow(-3));
        steps.add(x -> x.setFlow(-3));
        steps.add(x -> x.advance(37));
        steps.add(x -> Check.execute(x, "wait 5;plug 3;wring 0;soft 4 4 4"));
        steps.add(x -> x.removeTowel(0));
        return steps;
    }

    private static void promise53EachModification() {
        for (int i = 0; i < modifications().size(); i++) {
            Step step = modifications().get(i);
            BathtubTides x = afterSteps(i);
            String before = Check.all(x);
            step.take(x);
            check.same("left", 7, x.undo());
            check.same("undone", before, Check.all(x));
            step.take(x);
            check.same("again", Check.all(afterSteps(i + 1)), Check.all(x));
        }
    }

    /** The busy tub after the first of the modifications. */
    private static BathtubTides afterSteps(int count) {
        BathtubTides x = busy();
        for (Step step : modifications().subList(0, count)) {
            step.take(x);
        }
        return x;
    }

    private static void promise53TheLast8() {
        for (int count = 1; count <= 20; count++) {
            BathtubTides x = new BathtubTides();
            List<String> states = new ArrayList<>();
            List<Step> steps = new ArrayList<>();
            steps.add(y -> y.addHardMoon(3, 2, 2));
            steps.add(y -> y.layTowel(0, 0));
            steps.add(y -> y.advance(3));
            while (steps.size() < count) {
                steps.add(y -> y.advance(7));
            }
            for (int i = 0; i < count; i++) {
                states.add(brief(x));
                steps.get(i).take(x);
            }
            for (int left = Math.min(8, count) - 1; left >= 0; left--) {
                check.same("left", left, x.undo());
                check.same("undone", states.remove(states.size() - 1), brief(x));
            }
            String last = Check.all(x);
            check.fails("none is left", STATE, () -> x.undo());
            check.same("unchanged", last, Check.all(x));
        }
    }

    /** Few calls, for an object that is used for 512 of them at most. */
    private static String brief(BathtubTides x) {
        return x.time() + " " + x.baseLevel() + " " + x.tideAt(0) + " " + x.moonCount() + " " + x.towelCount();
    }

    private static void promise53NoModification() {
        BathtubTides x = busy();
        x.undo();
        x.undo();
        String before = Check.all(x);
        check.fails("failed", ARGUMENT, () -> x.addHardMoon(0, 0, 1));
        check.fails("failed", IndexOutOfBoundsException.class, () -> x.removeMoon(3));
        check.fails("failed", STATE, () -> x.placeToe(4));
        check.fails("failed", STATE, () -> x.removeToe(5));
        check.fails("failed", IndexOutOfBoundsException.class, () -> x.insertPlug(12));
        check.fails("failed", STATE, () -> x.layTowel(3, 1));
        check.fails("failed", IndexOutOfBoundsException.class, () -> x.removeTowel(2));
        check.fails("failed", IndexOutOfBoundsException.class, () -> x.wringTowel(2));
        check.fails("failed", ARGUMENT, () -> x.setFlow(4));
        check.fails("failed", ARGUMENT, () -> x.advance(61));
        check.fails("failed", STATE, () -> Check.execute(x, "wait 9;toe 4"));
        check.fails("failed", ARGUMENT, () -> Check.execute(x, "wait 9;to"));
        x.type('a');
        x.save();
        x.writeRim();
        x.writeMoon(0);
        x.tideIn(0, 3);
        check.same("unchanged", before, Check.all(x));
        check.same("none of them is undone", 5, x.undo());
        check.same("it is the towel", 1, x.towelCount());

        BathtubTides y = new BathtubTides();
        for (int i = 0; i < 8; i++) {
            y.advance(1);
        }
        check.fails("failed", STATE, () -> Check.execute(y, "wait 9;toe 4;toe 4"));
        check.same("time", 8, y.time());
        for (int left = 7; left >= 0; left--) {
            check.same("a text that failed displaces nothing", left, y.undo());
        }
        check.same("time", 0, y.time());
    }

    private static void promise53ThenOn() {
        BathtubTides x = new BathtubTides();
        for (int i = 0; i < 10; i++) {
            x.advance(1);
        }
        check.same("left", 7, x.undo());
        check.same("left", 6, x.undo());
        x.advance(10);
        check.same("time", 18, x.time());
        check.same("left", 6, x.undo());
        check.same("time", 8, x.time());
        x.advance(20);
        x.advance(20);
        x.advance(20);
        check.same("left", 7, x.undo());
        check.same("time", 48, x.time());
    }

    private static void promises54And55Snapshot() {
        BathtubTides x = new BathtubTides();
        check.fails("no snapshot", STATE, () -> x.restore());
        check.same("no moons", 0, x.save());
        x.addHardMoon(1, 0, 1);
        x.addHardMoon(2, 0, 1);
        check.same("no moons", 0, x.restore());
        check.same("no moons", 0, x.moonCount());
        check.fails("nothing to undo", STATE, () -> x.undo());
        x.addHardMoon(1, 0, 1);
        x.addHardMoon(2, 3, 4);
        check.same("moons", 2, x.save());
        x.removeMoon(0);
        x.advance(50);
        check.same("undo leaves the snapshot", 3, x.undo());
        check.same("restored", 2, x.restore());
        check.same("moons", "h1@0 h2@3 0", Check.moon(x, 0) + " " + Check.moon(x, 1) + " " + x.time());
        x.advance(5);
        check.same("kept", 2, x.restore());
        check.same("time", 0, x.time());
        check.fails("nothing to undo", STATE, () -> x.undo());
        x.advance(7);
        check.same("one modification", 0, x.undo());
        x.removeMoon(1);
        check.same("replaced", 1, x.save());
        x.removeMoon(0);
        check.same("the later one", 1, x.restore());

        BathtubTides y = new BathtubTides();
        y.advance(3);
        check.fails("no snapshot", STATE, () -> y.restore());
        check.same("a restore that failed leaves the history", 0, y.undo());
        y.advance(3);
        y.save();
        check.same("a save leaves the history", 0, y.undo());
        check.same("restored", 0, y.restore());
        check.same("time", 3, y.time());
    }

    private static void promise55EachField() {
        for (int i = 0; i < modifications().size(); i++) {
            BathtubTides x = afterSteps(i);
            x.save();
            String before = Check.all(x);
            modifications().get(i).take(x);
            x.advance(3);
            x.restore();
            check.same("restored", before, Check.all(x));
            check.fails("nothing to undo", STATE, () -> x.undo());
        }
    }
}
