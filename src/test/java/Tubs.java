import java.util.List;

/** Tubs in the states that the sentences ask for, and what is asked of them again and again. */
final class Tubs {
    interface Adder {
        int add(BathtubTides x, int mass, int position, int period);
    }

    interface Numbered {
        BathtubTides make(int count);
    }

    interface Indexed {
        Object of(BathtubTides x, int index);
    }

    static final List<Adder> KINDS =
            List.of(BathtubTides::addHardMoon, BathtubTides::addSoftMoon, BathtubTides::addBubbleMoon);
    static final int[] NO_POSITIONS = {Integer.MIN_VALUE, -1, 12, 13, Integer.MAX_VALUE};

    private Tubs() {
    }

    /** What is just outside of a range, and what is far outside of it. */
    static int[] outside(int least, int most) {
        return new int[] {Integer.MIN_VALUE, least - 1, most + 1, Integer.MAX_VALUE};
    }

    /** More than 60 minutes, too. */
    static int pass(BathtubTides x, int minutes) {
        int floods = 0;
        for (int left = minutes; left > 0; left -= 60) {
            floods += x.advance(Math.min(60, left));
        }
        return floods;
    }

    /** With that base level and closed taps, at a time that is a multiple of 12. */
    static BathtubTides withBase(int base) {
        BathtubTides x = new BathtubTides();
        while (x.baseLevel() != base) {
            x.setFlow(Math.max(-3, Math.min(3, base - x.baseLevel())));
            x.advance(12);
        }
        x.setFlow(0);
        return x;
    }

    static BathtubTides withMoons(int count) {
        BathtubTides x = new BathtubTides();
        for (int moon = 0; moon < count; moon++) {
            KINDS.get(moon % 3).add(x, moon + 1, 2 * moon, moon + 1);
        }
        return x;
    }

    static BathtubTides withTowels(int count) {
        BathtubTides x = new BathtubTides();
        for (int towel = 0; towel < count; towel++) {
            x.layTowel(3 * towel, 15 * (towel + 1));
        }
        return x;
    }

    static BathtubTides withToes(int count) {
        BathtubTides x = new BathtubTides();
        for (int toe = 0; toe < count; toe++) {
            x.placeToe(3 * toe);
        }
        return x;
    }

    /** A towel at position 0 that holds 5 units, at that base level, at a multiple of 12. */
    static BathtubTides withWetTowel(int base) {
        BathtubTides x = new BathtubTides();
        x.layTowel(0, 0);
        x.advance(12);
        while (x.baseLevel() != base) {
            x.setFlow(Math.max(-3, Math.min(3, base - x.baseLevel())));
            x.advance(12);
        }
        x.setFlow(0);
        return x;
    }

    /** Towels that hold 4, 0, 2 and 1 units, the second one after 3 floods. */
    static BathtubTides withWetTowels() {
        BathtubTides x = new BathtubTides();
        for (int towel = 0; towel < 4; towel++) {
            x.layTowel(11 - towel, 0);
            x.advance(1);
        }
        x.wringTowel(1);
        return x;
    }

    /** Three moons, two toes, the plug, a wet towel and a dry one, running taps, and nothing that can be undone. */
    static BathtubTides busy() {
        BathtubTides x = new BathtubTides();
        x.addHardMoon(3, 2, 2);
        x.addSoftMoon(5, 7, 3);
        x.addBubbleMoon(5, 9, 4);
        x.placeToe(4);
        x.placeToe(10);
        x.insertPlug(8);
        x.layTowel(3, 0);
        x.layTowel(5, 59);
        x.setFlow(2);
        x.advance(31);
        x.save();
        x.restore();
        return x;
    }

    /** 5 moons of 5 ages, 4 toes, 4 towels, the plug and running taps, and nothing that can be undone. */
    static BathtubTides full() {
        BathtubTides x = new BathtubTides();
        for (int moon = 0; moon < 5; moon++) {
            KINDS.get(moon % 3).add(x, moon + 1, 2 * moon, moon + 1);
            x.advance(1);
        }
        for (int i = 0; i < 4; i++) {
            x.placeToe(3 * i + 1);
            x.layTowel(3 * i, 10 * i);
        }
        x.insertPlug(5);
        x.setFlow(-1);
        x.advance(7);
        x.save();
        x.restore();
        return x;
    }

    /** What becomes of a text: how many commands are executed, which one fails, or where it is malformed. */
    static String verdict(BathtubTides x, String text) {
        Check.type(x, text);
        try {
            return "executed " + x.execute();
        } catch (IllegalStateException failed) {
            return "failed " + x.failedCommand();
        } catch (IllegalArgumentException malformed) {
            return "malformed " + x.errorPosition();
        }
    }

    static String verdict(String text) {
        return verdict(new BathtubTides(), text);
    }

    // ---- refused calls that many methods have in common ----

    /** Each number from 0 below the count is answered; those around and far away are not, and change nothing. */
    static void noSuch(Check check, String what, Numbered numbered, int most, Indexed call) {
        for (int count : new int[] {0, 1, most}) {
            for (int index : outside(0, count - 1)) {
                check.refuses(what + " " + index + " of " + count, IndexOutOfBoundsException.class,
                        () -> numbered.make(count), x -> call.of(x, index));
            }
            for (int index = 0; index < count; index++) {
                call.of(numbered.make(count), index);
            }
        }
    }

    static void noSuchMoon(Check check, Indexed call) {
        noSuch(check, "moon", Tubs::withMoons, 5, call);
        BathtubTides x = withMoons(5);
        x.removeMoon(2);
        check.fails("the moon behind the last after a removal", IndexOutOfBoundsException.class, () -> call.of(x, 4));
        call.of(x, 3);
    }

    static void noSuchTowel(Check check, Indexed call) {
        noSuch(check, "towel", Tubs::withTowels, 4, call);
        BathtubTides x = withTowels(4);
        x.removeTowel(1);
        check.fails("the towel behind the last after a removal", IndexOutOfBoundsException.class, () -> call.of(x, 3));
        call.of(x, 2);
    }

    static void noSuchPosition(Check check, Indexed call) {
        for (int position : NO_POSITIONS) {
            check.refuses("position " + position, IndexOutOfBoundsException.class, Tubs::busy,
                    x -> call.of(x, position));
        }
    }
}
