import java.util.NoSuchElementException;

/** Promises 36 to 42: predictions. */
final class PredictionsTest {
    private static final Class<IllegalArgumentException> ARGUMENT = IllegalArgumentException.class;
    private static final Class<IndexOutOfBoundsException> INDEX = IndexOutOfBoundsException.class;
    private static final Class<NoSuchElementException> NO_SUCH = NoSuchElementException.class;
    private static final Check check = new Check("PredictionsTest");

    public static void main(String[] args) {
        promises36And37TidesCome();
        promises38And39HighAndLow();
        promise40Eclipse();
        promises41And42Conjunctions();
        farConjunctions();
        wrongInputs();
        nothingChanges();
        check.close();
    }

    private static BathtubTides sky() {
        BathtubTides x = new BathtubTides();
        x.addHardMoon(4, 0, 1);
        x.advance(3);
        x.addSoftMoon(6, 3, 2);
        x.advance(4);
        x.addBubbleMoon(5, 9, 5);
        x.addSoftMoon(3, 10, 12);
        x.addBubbleMoon(1, 6, 7);
        x.placeToe(4);
        x.placeToe(11);
        x.insertPlug(8);
        return x;
    }

    private static void promises36And37TidesCome() {
        for (int minutes = 0; minutes <= 144; minutes++) {
            BathtubTides x = sky();
            int[] direct = new int[12];
            int[] stepped = new int[12];
            for (int position = 0; position < 12; position++) {
                direct[position] = x.tideIn(position, minutes);
                stepped[position] = x.tideBySteps(position, minutes);
            }
            Tubs.pass(x, minutes);
            for (int position = 0; position < 12; position++) {
                check.same("tideIn " + minutes, x.tideAt(position), direct[position]);
                check.same("tideBySteps " + minutes, x.tideAt(position), stepped[position]);
            }
        }
    }

    private static void promises38And39HighAndLow() {
        BathtubTides calm = new BathtubTides();
        check.same("the lowest one in a tie", 0, calm.highTideIn(11));
        check.same("the lowest one in a tie", 0, calm.lowTideIn(0));
        for (int position = 0; position < 12; position++) {
            BathtubTides x = sky();
            int[] tides = new int[145];
            int high = 0;
            int low = 0;
            for (int minutes = 0; minutes <= 144; minutes++) {
                tides[minutes] = x.tideIn(position, minutes);
                high = tides[minutes] > tides[high] ? minutes : high;
                low = tides[minutes] < tides[low] ? minutes : low;
            }
            check.same("high", high, x.highTideIn(position));
            check.same("low", low, x.lowTideIn(position));
        }
        BathtubTides slow = new BathtubTides();
        slow.addHardMoon(1, 1, 12);
        check.same("after 11 moves", 132, slow.highTideIn(0));
        check.same("after 5 moves", 60, slow.lowTideIn(0));
        slow.advance(1);
        check.same("one minute nearer", 131, slow.highTideIn(0));
        BathtubTides shaded = new BathtubTides();
        shaded.addHardMoon(2, 0, 12);
        shaded.insertPlug(6);
        check.same("not at the plug's opposite", 12, shaded.highTideIn(0));
        check.same("where it is highest", 24, shaded.highTideIn(2));
        BathtubTides tie = new BathtubTides();
        tie.addBubbleMoon(6, 0, 12);
        tie.advance(1);
        check.same("the lowest one of many", 1, tie.highTideIn(0));
        check.same("the lowest one of many", 1, tie.lowTideIn(6));
        BathtubTides last = new BathtubTides();
        last.addHardMoon(6, 0, 12);
        last.addSoftMoon(6, 6, 12);
        check.same("the very last minute", 144, last.highTideIn(0));
        check.same("the very last minute", 144, last.lowTideIn(6));
        check.same("then", "18 -18", last.tideIn(0, 144) + " " + last.tideIn(6, 144));
        last.advance(12);
        check.same("two of them", 132, last.highTideIn(0));
    }

    private static void promise40Eclipse() {
        for (int period = 1; period <= 12; period++) {
            for (int start = 0; start < 12; start++) {
                BathtubTides x = new BathtubTides();
                x.addHardMoon(1, start, period);
                x.advance(period + start + 1);
                x.insertPlug((start + period) % 12);
                int due = x.eclipseIn(0);
                int left = due;
                while (left > 60) {
                    x.advance(60);
                    left -= 60;
                }
                for (int minute = 0; minute < left; minute++) {
                    check.same("not yet", false, x.isEclipsed(0));
                    check.same("nearer", left - minute, x.eclipseIn(0));
                    x.advance(1);
                }
                check.same("now", true, x.isEclipsed(0));
                check.same("now", 0, x.eclipseIn(0));
            }
        }
        BathtubTides x = new BathtubTides();
        x.addSoftMoon(1, 0, 12);
        x.insertPlug(5);
        check.same("as late as can be", 132, x.eclipseIn(0));
        x.insertPlug(6);
        check.same("at once", 0, x.eclipseIn(0));
        x.insertPlug(7);
        check.same("next move", 12, x.eclipseIn(0));
        x.advance(11);
        check.same("next minute", 1, x.eclipseIn(0));
        x.pullPlug();
        check.fails("no plug", NO_SUCH, () -> x.eclipseIn(0));
        check.fails("the moon comes first", INDEX, () -> x.eclipseIn(1));
        check.fails("the moon comes first", INDEX, () -> x.eclipseIn(-1));
    }

    private static void promises41And42Conjunctions() {
        for (int one = 1; one <= 12; one++) {
            for (int two = 1; two <= 12; two++) {
                BathtubTides x = new BathtubTides();
                x.addHardMoon(1, (7 * one) % 12, one);
                x.advance(1 + (one + two) % 5);
                x.addSoftMoon(1, (5 * two + 1) % 12, two);
                int due = meeting((7 * one) % 12, 1 + (one + two) % 5, one, (5 * two + 1) % 12, two);
                if (due < 0) {
                    check.fails("never", NO_SUCH, () -> x.conjunctionIn(0, 1));
                    check.fails("never", NO_SUCH, () -> x.conjunctionByMoves(0, 1));
                } else {
                    check.same("conjunctionIn", due, x.conjunctionIn(0, 1));
                    check.same("conjunctionIn", due, x.conjunctionIn(1, 0));
                    check.same("conjunctionByMoves", due, x.conjunctionByMoves(0, 1));
                    check.same("conjunctionByMoves", due, x.conjunctionByMoves(1, 0));
                }
                check.same("itself", 0, x.conjunctionIn(1, 1));
                check.same("itself", 0, x.conjunctionByMoves(0, 0));
            }
        }
    }

    private static int meeting(int start, int age, int period, int otherStart, int otherPeriod) {
        for (int minutes = 0; minutes <= 2000; minutes++) {
            if ((start + (age + minutes) / period) % 12 == (otherStart + minutes / otherPeriod) % 12) {
                return minutes;
            }
        }
        return -1;
    }

    /** Moons whose periods differ little meet late; their ages set when, to the minute. */
    private static void farConjunctions() {
        int latest = 0;
        for (int lead = 0; lead < 12; lead++) {
            for (int start = 0; start < 12; start++) {
                int due = meeting(0, lead, 12, start, 11);
                latest = Math.max(latest, due);
                BathtubTides x = new BathtubTides();
                x.addHardMoon(1, 0, 12);
                if (lead > 0) {
                    x.advance(lead);
                }
                x.addHardMoon(1, start, 11);
                check.same("late", due, x.conjunctionIn(0, 1));
                check.same("late", due, x.conjunctionByMoves(1, 0));
            }
        }
        check.same("late ones are among them", true, latest > 1200);
        BathtubTides x = new BathtubTides();
        x.addHardMoon(1, 0, 12);
        x.addHardMoon(1, 1, 12);
        check.fails("never", NO_SUCH, () -> x.conjunctionIn(0, 1));
        check.fails("never", NO_SUCH, () -> x.conjunctionByMoves(0, 1));
        check.same("itself", 0, x.conjunctionByMoves(1, 1));
    }

    private static void wrongInputs() {
        BathtubTides x = sky();
        for (int position : new int[] {Integer.MIN_VALUE, -1, 12, Integer.MAX_VALUE}) {
            check.fails("tideIn", INDEX, () -> x.tideIn(position, 0));
            check.fails("tideBySteps", INDEX, () -> x.tideBySteps(position, 0));
            check.fails("tideIn: the position comes first", INDEX, () -> x.tideIn(position, 145));
            check.fails("tideBySteps: the position comes first", INDEX, () -> x.tideBySteps(position, -1));
            check.fails("highTideIn", INDEX, () -> x.highTideIn(position));
            check.fails("lowTideIn", INDEX, () -> x.lowTideIn(position));
        }
        for (int minutes : new int[] {Integer.MIN_VALUE, -1, 145, Integer.MAX_VALUE}) {
            check.fails("tideIn", ARGUMENT, () -> x.tideIn(0, minutes));
            check.fails("tideBySteps", ARGUMENT, () -> x.tideBySteps(11, minutes));
        }
        for (int moon : new int[] {Integer.MIN_VALUE, -1, 5, 6, Integer.MAX_VALUE}) {
            check.fails("eclipseIn", INDEX, () -> x.eclipseIn(moon));
            check.fails("conjunctionIn", INDEX, () -> x.conjunctionIn(moon, 0));
            check.fails("conjunctionIn", INDEX, () -> x.conjunctionIn(0, moon));
            check.fails("conjunctionIn", INDEX, () -> x.conjunctionIn(moon, moon));
            check.fails("conjunctionByMoves", INDEX, () -> x.conjunctionByMoves(moon, 0));
            check.fails("conjunctionByMoves", INDEX, () -> x.conjunctionByMoves(0, moon));
            check.fails("conjunctionByMoves", INDEX, () -> x.conjunctionByMoves(moon, moon));
        }
    }

    private static void nothingChanges() {
        BathtubTides x = sky();
        x.layTowel(2, 10);
        x.setFlow(2);
        String before = Check.all(x);
        x.tideIn(4, 144);
        x.tideBySteps(4, 144);
        x.highTideIn(1);
        x.lowTideIn(2);
        x.eclipseIn(3);
        x.conjunctionIn(0, 1);
        x.conjunctionByMoves(0, 1);
        check.same("a prediction leaves all as it is", before, Check.all(x));
    }
}
