import java.util.NoSuchElementException;

/** A test for each sentence of promises 36 to 42 that names a boundary case. */
final class PredictionSentencesTest {
    private static final Class<IllegalArgumentException> ARGUMENT = IllegalArgumentException.class;
    private static final Class<IndexOutOfBoundsException> INDEX = IndexOutOfBoundsException.class;
    private static final Class<NoSuchElementException> NO_SUCH = NoSuchElementException.class;
    private static final String POSITION = "`position`: the position, 0 to 11";
    private static final String NO_POSITION = "Throws `IndexOutOfBoundsException` if there is no such position";
    private static final String NO_MINUTES = "Throws `IllegalArgumentException` if the number of minutes is out of range";

    private interface Tide {
        int in(BathtubTides x, int position, int minutes);
    }

    private interface When {
        int is(BathtubTides x, int position);
    }

    private interface Meeting {
        int in(BathtubTides x, int moon, int other);
    }

    private PredictionSentencesTest() {
    }

    public static void main(String[] args) {
        Sentences s = Sentences.run("PredictionSentencesTest");
        tell(s);
        s.close();
    }

    static void tell(Sentences s) {
        s.of("Promise 36: tideIn");
        s.says("Returns the tide at a position in some minutes, from the positions and masses of the moons at that time.",
                check -> tideAtThatTime(check, (x, position, minutes) -> x.tideIn(position, minutes)));
        tide(s, (x, position, minutes) -> x.tideIn(position, minutes));
        s.of("Promise 37: tideBySteps");
        s.says("Returns the same as tideIn, by letting the moons move and lose mass minute by minute.", check -> {
            tideAtThatTime(check, (x, position, minutes) -> x.tideBySteps(position, minutes));
            sameTides(check);
        });
        tide(s, (x, position, minutes) -> x.tideBySteps(position, minutes));
        highTide(s);
        lowTide(s);
        eclipse(s);
        s.of("Promise 41: conjunctionIn");
        s.says("Returns the number of minutes, 0 if they are at the same position.",
                check -> meetings(check, (x, moon, other) -> x.conjunctionIn(moon, other)));
        noMeeting(s, (x, moon, other) -> x.conjunctionIn(moon, other));
        s.of("Promise 42: conjunctionByMoves");
        s.says("Returns the same as conjunctionIn, by trying only the minutes in which a moon moves.", check -> {
            meetings(check, (x, moon, other) -> x.conjunctionByMoves(moon, other));
            sameMeetings(check);
        });
        noMeeting(s, (x, moon, other) -> x.conjunctionByMoves(moon, other));
    }

    // ---- tides ----

    private static void tideAtThatTime(Check check, Tide tide) {
        BathtubTides x = new BathtubTides();
        x.addSoftMoon(6, 11, 5);
        check.same("now", 18, tide.in(x, 11, 0));
        check.same("before the first move", 18, tide.in(x, 11, 4));
        check.same("the first move, from 11 to 0", 18, tide.in(x, 0, 5));
        check.same("before the first loss", 18, tide.in(x, 0, 9));
        check.same("the first loss and the second move", 15, tide.in(x, 1, 10));
        check.same("before the last loss", 3, tide.in(x, 10, 59));
        check.same("no mass left", 0, tide.in(x, 11, 60));
        check.same("nor later", 0, tide.in(x, 0, 70));
        check.same("nor at last", 0, tide.in(x, 3, 144));
        BathtubTides y = new BathtubTides();
        y.addBubbleMoon(5, 0, 12);
        check.same("an odd age", 6, tide.in(y, 0, 1));
        check.same("an even age", 15, tide.in(y, 0, 2));
        check.same("a whole circle", 15, tide.in(y, 0, 144));
        y.insertPlug(7);
        check.same("just before the eclipse", 6, tide.in(y, 0, 11));
        check.same("eclipsed at that time", 0, tide.in(y, 1, 12));
        check.same("eclipsed until then", 0, tide.in(y, 1, 23));
        check.same("no longer", 15, tide.in(y, 2, 24));
        y.placeToe(2);
        check.same("damped", 7, tide.in(y, 2, 24));
    }

    private static void sameTides(Check check) {
        BathtubTides x = Tubs.full();
        for (int minutes : new int[] {0, 1, 2, 3, 9, 10, 11, 12, 13, 53, 59, 60, 61, 143, 144}) {
            for (int position = 0; position < 12; position++) {
                check.same("at " + position + " in " + minutes, x.tideIn(position, minutes),
                        x.tideBySteps(position, minutes));
            }
        }
    }

    private static void tide(Sentences s, Tide tide) {
        s.says(POSITION, check -> {
            int[] due = {-1, -2, -3, -2, -1, 0, 1, 2, 3, 2, 1, 0};
            BathtubTides x = new BathtubTides();
            x.addHardMoon(1, 8, 12);
            for (int position = 0; position <= 11; position++) {
                check.same("at " + position, due[position], tide.in(x, position, 11));
                check.same("a minute later at " + position, due[(position + 11) % 12], tide.in(x, position, 12));
            }
        });
        s.says("`minutes`: the number of minutes, 0 to 144", check -> {
            BathtubTides x = new BathtubTides();
            x.addHardMoon(1, 0, 12);
            x.advance(11);
            check.same("now", 3, tide.in(x, 0, 0));
            check.same("the next minute", 2, tide.in(x, 0, 1));
            check.same("the last but one", 3, tide.in(x, 0, 143));
            check.same("the last one", 3, tide.in(x, 0, 144));
            x.advance(1);
            check.same("the last but one", 3, tide.in(x, 0, 143));
            check.same("the last one", 2, tide.in(x, 0, 144));
        });
        s.says(NO_POSITION, check -> {
            Tubs.noSuchPosition(check, (x, position) -> tide.in(x, position, 0));
            Tubs.noSuchPosition(check, (x, position) -> tide.in(x, position, 145));
        });
        s.says(NO_MINUTES, check -> {
            for (int minutes : Tubs.outside(0, 144)) {
                check.refuses("minutes " + minutes, ARGUMENT, BathtubTides::new, x -> tide.in(x, 0, minutes));
                check.refuses("minutes " + minutes, ARGUMENT, Tubs::busy, x -> tide.in(x, 11, minutes));
            }
        });
    }

    // ---- high and low tides ----

    /** Highest at 0 and lowest at 6 in 144 minutes; yet higher and lower a minute after them. */
    private static BathtubTides atTheEnd() {
        BathtubTides x = new BathtubTides();
        x.addBubbleMoon(1, 0, 12);
        x.advance(1);
        x.addHardMoon(6, 0, 12);
        x.addSoftMoon(6, 6, 12);
        return x;
    }

    /** A moon that moves once in 12 minutes, and is back where it was after 144. */
    private static BathtubTides slowMoon() {
        BathtubTides x = new BathtubTides();
        x.addHardMoon(1, 0, 12);
        return x;
    }

    private static void highTide(Sentences s) {
        s.of("Promise 38: highTideIn");
        s.says("Returns when the tide at a position is highest in the next 144 minutes, the present one included.",
                check -> {
                    BathtubTides x = atTheEnd();
                    check.same("in the last minute, not behind it", 144, x.highTideIn(0));
                    check.same("then", 18, x.tideIn(0, 144));
                    x.advance(1);
                    check.same("a minute later it is higher", 144, x.highTideIn(0));
                    check.same("then", 21, x.tideIn(0, 144));
                    check.same("the present one", 0, slowMoon().highTideIn(0));
                    BathtubTides next = new BathtubTides();
                    next.addHardMoon(1, 11, 1);
                    check.same("the next one", 1, next.highTideIn(0));
                });
        extremes(s, (x, position) -> x.highTideIn(position), 0);
    }

    private static void lowTide(Sentences s) {
        s.of("Promise 39: lowTideIn");
        s.says("Returns when the tide at a position is lowest in the next 144 minutes, the present one included.",
                check -> {
                    BathtubTides x = atTheEnd();
                    check.same("in the last minute, not behind it", 144, x.lowTideIn(6));
                    check.same("then", -18, x.tideIn(6, 144));
                    x.advance(1);
                    check.same("a minute later it is lower", 144, x.lowTideIn(6));
                    check.same("then", -21, x.tideIn(6, 144));
                    check.same("the present one", 0, slowMoon().lowTideIn(6));
                    BathtubTides next = new BathtubTides();
                    next.addHardMoon(1, 11, 1);
                    check.same("the next one", 1, next.lowTideIn(6));
                });
        extremes(s, (x, position) -> x.lowTideIn(position), 6);
    }

    /** A moon that is as far away stands for the highest tide of a position, or for the lowest one. */
    private static void extremes(Sentences s, When when, int distance) {
        s.says(POSITION, check -> {
            BathtubTides x = new BathtubTides();
            x.addHardMoon(1, distance, 1);
            for (int position = 0; position <= 11; position++) {
                check.same("at " + position, position, when.is(x, position));
            }
        });
        s.says("Returns the number of minutes until then, 0 to 144, the lowest one in case of a tie.", check -> {
            for (int position : new int[] {0, 11}) {
                check.same("a tie of all", 0, when.is(new BathtubTides(), position));
            }
            BathtubTides x = slowMoon();
            check.same("a tie of the first 12 and the last", 0, when.is(x, distance));
            x.advance(11);
            check.same("a tie of now and the last 12", 0, when.is(x, distance));
            x.advance(1);
            check.same("the first of 12", 132, when.is(x, distance));
            check.same("the first of 12, after 5 moves", 60, when.is(x, (distance + 6) % 12));
            BathtubTides fast = new BathtubTides();
            fast.addHardMoon(1, 1, 1);
            check.same("the first of 12 circles", 11, when.is(fast, distance));
            check.same("the last minute", 144, when.is(atTheEnd(), distance));
            BathtubTides bubble = new BathtubTides();
            bubble.addBubbleMoon(6, 0, 12);
            bubble.advance(1);
            check.same("the first of 6", 1, when.is(bubble, distance));
        });
        s.says(NO_POSITION, check -> Tubs.noSuchPosition(check, (x, position) -> when.is(x, position)));
    }

    // ---- eclipses ----

    private static BathtubTides pluggedWithMoons(int count) {
        BathtubTides x = Tubs.withMoons(count);
        x.insertPlug(3);
        return x;
    }

    private static void eclipse(Sentences s) {
        s.of("Promise 40: eclipseIn");
        s.says("Returns the number of minutes, 0 if it is eclipsed.", check -> {
            BathtubTides x = new BathtubTides();
            x.addHardMoon(1, 0, 12);
            x.insertPlug(6);
            check.same("eclipsed", 0, x.eclipseIn(0));
            x.advance(11);
            check.same("eclipsed for the last minute", 0, x.eclipseIn(0));
            x.advance(1);
            check.same("eclipsed no more, a whole circle less one move", 132, x.eclipseIn(0));
            x.advance(1);
            check.same("one minute nearer", 131, x.eclipseIn(0));
            x.insertPlug(8);
            check.same("the next move", 11, x.eclipseIn(0));
            x.advance(10);
            check.same("the next minute", 1, x.eclipseIn(0));
            x.advance(1);
            check.same("now", "0 true", x.eclipseIn(0) + " " + x.isEclipsed(0));
            for (int plug = 0; plug < 12; plug++) {
                BathtubTides y = new BathtubTides();
                y.addBubbleMoon(1, 11, 1);
                y.insertPlug(plug);
                check.same("plug " + plug, (plug + 7) % 12, y.eclipseIn(0));
            }
            BathtubTides gone = new BathtubTides();
            gone.addSoftMoon(1, 0, 12);
            gone.insertPlug(6);
            gone.advance(10);
            check.same("a moon without mass is eclipsed, too", 0, gone.eclipseIn(0));
        });
        s.says("Throws `IndexOutOfBoundsException` if there is no such moon", check -> {
            Tubs.noSuch(check, "moon", PredictionSentencesTest::pluggedWithMoons, 5, (x, moon) -> x.eclipseIn(moon));
            check.refuses("no moon and no plug", INDEX, BathtubTides::new, x -> x.eclipseIn(0));
            check.refuses("no such moon and no plug", INDEX, () -> Tubs.withMoons(5), x -> x.eclipseIn(5));
        });
        s.says("Throws `NoSuchElementException` if there is no plug", check -> {
            check.refuses("at first", NO_SUCH, () -> Tubs.withMoons(1), x -> x.eclipseIn(0));
            BathtubTides x = pluggedWithMoons(5);
            check.same("with a plug", 9, x.eclipseIn(0));
            x.pullPlug();
            for (int moon = 0; moon < 5; moon++) {
                int number = moon;
                check.fails("pulled", NO_SUCH, () -> x.eclipseIn(number));
            }
        });
    }

    // ---- conjunctions ----

    /** Of all pairs of moons that meet, these take the longest time: 1342 minutes. */
    static BathtubTides lastToMeet() {
        BathtubTides x = new BathtubTides();
        x.addHardMoon(1, 11, 12);
        x.advance(1);
        x.addHardMoon(1, 0, 11);
        return x;
    }

    private static BathtubTides pair(int position, int period, int otherPosition, int otherPeriod) {
        BathtubTides x = new BathtubTides();
        x.addHardMoon(1, position, period);
        x.addSoftMoon(1, otherPosition, otherPeriod);
        return x;
    }

    private static void meetings(Check check, Meeting meeting) {
        check.same("at the same position", 0, meeting.in(pair(7, 1, 7, 12), 0, 1));
        check.same("a moon and itself", 0, meeting.in(pair(7, 1, 8, 1), 1, 1));
        check.same("the next minute, from 11 to 0", 1, meeting.in(pair(11, 1, 0, 2), 0, 1));
        check.same("the other way around", 1, meeting.in(pair(11, 1, 0, 2), 1, 0));
        check.same("the first move", 6, meeting.in(pair(11, 12, 10, 6), 0, 1));
        check.same("at 12 both move, at 18 only one", 18, meeting.in(pair(0, 12, 10, 6), 0, 1));
        BathtubTides parting = pair(0, 12, 0, 11);
        parting.advance(10);
        check.same("still at the same position", 0, meeting.in(parting, 0, 1));
        parting.advance(1);
        check.same("one moon is a step ahead for a minute", 1, meeting.in(parting, 0, 1));
        check.same("the latest of all", 1342, meeting.in(lastToMeet(), 0, 1));
    }

    private static void sameMeetings(Check check) {
        for (int period = 1; period <= 12; period++) {
            for (int other = 1; other <= 12; other++) {
                if (period != other) {
                    BathtubTides x = pair(0, period, 1, other);
                    x.advance(period);
                    check.same("periods " + period + " and " + other, x.conjunctionIn(0, 1), x.conjunctionByMoves(0, 1));
                }
            }
        }
    }

    private static void noMeeting(Sentences s, Meeting meeting) {
        s.says("Throws `IndexOutOfBoundsException` if either moon does not exist", check -> {
            Tubs.noSuchMoon(check, (x, moon) -> meeting.in(x, moon, moon));
            for (int moon : Tubs.outside(0, 1)) {
                check.refuses("first " + moon, INDEX, () -> pair(0, 1, 1, 1), x -> meeting.in(x, moon, 0));
                check.refuses("second " + moon, INDEX, () -> pair(0, 1, 1, 1), x -> meeting.in(x, 0, moon));
                check.refuses("both " + moon, INDEX, () -> pair(0, 1, 1, 1), x -> meeting.in(x, moon, moon));
            }
            check.refuses("without moons", INDEX, BathtubTides::new, x -> meeting.in(x, 0, 0));
        });
        s.says("Throws `NoSuchElementException` if they are not at the same position in the next 2000 minutes", check -> {
            for (int period = 1; period <= 12; period++) {
                int same = period;
                check.refuses("a step apart, period " + period, NO_SUCH, () -> pair(0, same, 1, same),
                        x -> meeting.in(x, 0, 1));
                check.refuses("a step apart over the top, period " + period, NO_SUCH, () -> pair(0, same, 11, same),
                        x -> meeting.in(x, 1, 0));
            }
            check.refuses("opposite", NO_SUCH, () -> pair(0, 5, 6, 5), x -> meeting.in(x, 0, 1));
            check.same("the latest that meet at all", 1342, meeting.in(lastToMeet(), 0, 1));
        });
    }
}
