import java.util.ArrayList;
import java.util.List;
import java.util.NoSuchElementException;

/** A test for each sentence of "What it is" and "Terms" that names a boundary case. */
final class TermsSentencesTest {
    private static final Class<IllegalArgumentException> ARGUMENT = IllegalArgumentException.class;
    private static final Class<IllegalStateException> STATE = IllegalStateException.class;
    private static final Class<IndexOutOfBoundsException> INDEX = IndexOutOfBoundsException.class;
    private static final Class<NoSuchElementException> NO_SUCH = NoSuchElementException.class;

    private TermsSentencesTest() {
    }

    public static void main(String[] args) {
        Sentences s = Sentences.run("TermsSentencesTest");
        tell(s);
        s.close();
    }

    static void tell(Sentences s) {
        whatItIs(s);
        beginning(s);
        rim(s);
        moons(s);
        mass(s);
        tides(s);
        towels(s);
        minutes(s);
        clarifications(s);
    }

    private static void whatItIs(Sentences s) {
        s.of("What it is");
        s.says("An object is used for at most 512 calls after it has been made; what later calls answer is free.",
                check -> {
                    BathtubTides x = new BathtubTides();
                    for (int call = 1; call <= 511; call++) {
                        check.same("call " + call, 0, x.advance(60));
                    }
                    check.same("the 512th call", 511 * 60, x.time());
                    BathtubTides y = new BathtubTides();
                    y.addBubbleMoon(5, 11, 12);
                    y.addSoftMoon(6, 0, 11);
                    for (int call = 3; call <= 506; call++) {
                        y.advance(60);
                    }
                    int age = 504 * 60;
                    check.same("call 507", (11 + age / 12) % 12, y.positionOf(0));
                    check.same("call 508", (age / 11) % 12, y.positionOf(1));
                    check.same("call 509", 5, y.massOf(0));
                    check.same("call 510", 0, y.massOf(1));
                    check.same("call 511", y.conjunctionIn(0, 1), y.conjunctionByMoves(1, 0));
                    BathtubTides z = new BathtubTides();
                    for (int call = 1; call <= 60; call++) {
                        check.same("call " + call, call, z.type('x'));
                    }
                    for (int call = 61; call <= 511; call++) {
                        check.fails("call " + call, STATE, () -> z.type('x'));
                    }
                    check.fails("the 512th call", ARGUMENT, () -> z.execute());
                });
    }

    private static void beginning(Sentences s) {
        s.of("Terms");
        s.says("Moons of soap circle the rim and pull the water, toes are headlands that damp the tide, the plug eclipses "
                + "moons, towels on the shore absorb floods, and taps change the base level once in each period of 12 "
                + "minutes.", check -> {
                    BathtubTides x = new BathtubTides();
                    x.setFlow(1);
                    for (int time = 1; time <= 37; time++) {
                        x.advance(1);
                        check.same("base at " + time, 20 + time / 12, x.baseLevel());
                    }
                });
        s.says("A predicted tide comes, unless a moon, a toe or the plug is changed.", check -> {
            predictedTidesCome(check);
            predictedTidesChange(check);
        });
    }

    private static void predictedTidesCome(Check check) {
        int[] minutes = {0, 1, 11, 12, 60, 144};
        int[][] tides = new int[minutes.length][12];
        BathtubTides x = Tubs.busy();
        for (int i = 0; i < minutes.length; i++) {
            for (int position = 0; position < 12; position++) {
                tides[i][position] = x.tideIn(position, minutes[i]);
                check.same("by steps", tides[i][position], x.tideBySteps(position, minutes[i]));
            }
        }
        for (int i = 0; i < minutes.length; i++) {
            Tubs.pass(x, i == 0 ? 0 : minutes[i] - minutes[i - 1]);
            for (int position = 0; position < 12; position++) {
                check.same("tide at " + position + " after " + minutes[i], tides[i][position], x.tideAt(position));
            }
            // none of these is a moon, a toe or the plug
            x.setFlow(i % 2 == 0 ? -3 : 3);
            x.wringTowel(0);
            x.removeTowel(0);
            x.layTowel(i, 0);
        }
    }

    private static void predictedTidesChange(Check check) {
        BathtubTides x = new BathtubTides();
        x.addHardMoon(5, 0, 12);
        predicts(check, "at first", 15, x);
        x.addHardMoon(1, 0, 12);
        predicts(check, "a moon is added", 18, x);
        x.removeMoon(1);
        predicts(check, "a moon is removed", 15, x);
        x.placeToe(0);
        predicts(check, "a toe is placed", 7, x);
        x.removeToe(0);
        predicts(check, "a toe is removed", 15, x);
        x.insertPlug(6);
        predicts(check, "the plug is inserted", 0, x);
        x.insertPlug(7);
        predicts(check, "the plug is moved", 15, x);
        x.insertPlug(6);
        x.pullPlug();
        predicts(check, "the plug is pulled", 15, x);
    }

    private static void predicts(Check check, String what, int due, BathtubTides x) {
        check.same(what, due, x.tideIn(0, 11));
        check.same(what + ", by steps", due, x.tideBySteps(0, 11));
    }

    private static void rim(Sentences s) {
        s.of("Terms, Rim");
        s.says("The rim has the positions 0 to 11 in a circle.", check -> {
            BathtubTides x = new BathtubTides();
            x.addHardMoon(1, 11, 1);
            check.same("at 11", 11, x.positionOf(0));
            check.same("0 is beside 11", x.tideAt(10), x.tideAt(0));
            x.advance(1);
            check.same("0 comes after 11", 0, x.positionOf(0));
            check.same("11 is beside 0", x.tideAt(1), x.tideAt(11));
            x.advance(11);
            check.same("11 again", 11, x.positionOf(0));
            check.same("the first", false, x.hasToe(0));
            check.same("the last", false, x.hasToe(11));
            for (int position : Tubs.NO_POSITIONS) {
                check.fails("position " + position, INDEX, () -> x.hasToe(position));
            }
        });
        s.says("The distance of two positions is the number of steps between them on the shorter way around, 0 to 6.",
                check -> {
                    int[] distance = {0, 1, 2, 3, 4, 5, 6, 5, 4, 3, 2, 1};
                    for (int moon = 0; moon < 12; moon++) {
                        BathtubTides x = new BathtubTides();
                        x.addHardMoon(1, moon, 1);
                        for (int steps = 0; steps < 12; steps++) {
                            check.same(steps + " steps up from " + moon, 3 - distance[steps],
                                    x.tideAt((moon + steps) % 12));
                        }
                    }
                });
        s.says("Two positions are opposite if their distance is 6.", check -> {
            for (int plug = 0; plug < 12; plug++) {
                for (int moon = 0; moon < 12; moon++) {
                    BathtubTides x = new BathtubTides();
                    x.addHardMoon(1, moon, 1);
                    x.insertPlug(plug);
                    check.same("moon " + moon + " plug " + plug, moon == plug + 6 || plug == moon + 6,
                            x.isEclipsed(0));
                }
            }
        });
    }

    private static void moons(Sentences s) {
        s.of("Terms, Moons");
        s.says("There are at most 5 moons, numbered from 0 in the order in which they were added.", check -> {
            BathtubTides x = new BathtubTides();
            for (int moon = 0; moon < 5; moon++) {
                check.same("the number", moon, Tubs.KINDS.get(moon % 3).add(x, moon + 1, moon, 1));
            }
            for (Tubs.Adder kind : Tubs.KINDS) {
                check.fails("the sixth", STATE, () -> kind.add(x, 1, 0, 1));
            }
            for (int moon = 0; moon < 5; moon++) {
                check.same("in order", moon + 1, x.massOf(moon));
            }
            check.same("count", 5, x.moonCount());
            check.same("left", 4, x.removeMoon(4));
            check.same("a fifth again", 4, x.addSoftMoon(1, 0, 1));
        });
        s.says("When a moon is removed, the numbers of the later moons decrease by 1.", check -> {
            String[] due = {"2 3 4 5", "1 3 4 5", "1 2 4 5", "1 2 3 5", "1 2 3 4"};
            for (int removed = 0; removed < 5; removed++) {
                BathtubTides x = new BathtubTides();
                for (int moon = 0; moon < 5; moon++) {
                    x.addHardMoon(moon + 1, moon, moon + 1);
                }
                x.removeMoon(removed);
                check.same("without " + removed, due[removed],
                        x.massOf(0) + " " + x.massOf(1) + " " + x.massOf(2) + " " + x.massOf(3));
                check.fails("the last number is free", INDEX, () -> x.massOf(4));
            }
            for (int removed = 0; removed < 5; removed++) {
                removeFromAFullTub(check, removed);
            }
            BathtubTides x = Tubs.withMoons(1);
            x.removeMoon(0);
            check.fails("the only one", INDEX, () -> x.massOf(0));
        });
        s.says("A moon has a start position, a period from 1 to 12 and an initial mass from 1 to 6.", check -> {
            for (Tubs.Adder kind : Tubs.KINDS) {
                BathtubTides x = new BathtubTides();
                kind.add(x, 1, 0, 1);
                kind.add(x, 6, 11, 12);
                check.same("least and most", "1@0 6@11", Check.moon(x, 0).substring(1) + " "
                        + Check.moon(x, 1).substring(1));
                for (int period : Tubs.outside(1, 12)) {
                    check.fails("period " + period, ARGUMENT, () -> kind.add(x, 1, 0, period));
                }
                for (int mass : Tubs.outside(1, 6)) {
                    check.fails("mass " + mass, ARGUMENT, () -> kind.add(x, mass, 0, 1));
                }
                for (int position : Tubs.outside(0, 11)) {
                    check.fails("position " + position, ARGUMENT, () -> kind.add(x, 1, position, 1));
                }
                check.same("none of them is there", 2, x.moonCount());
            }
        });
        s.says("The age of a moon is the number of minutes since it was added.", check -> {
            BathtubTides x = new BathtubTides();
            x.advance(60);
            for (int moon = 0; moon < 3; moon++) {
                Tubs.KINDS.get(moon).add(x, 1, 0, 1);
                check.same("at first", 0, x.ageOf(moon));
                x.advance(1);
                check.same("a minute later", 1, x.ageOf(moon));
            }
            x.advance(60);
            check.same("each its own", "63 62 61", x.ageOf(0) + " " + x.ageOf(1) + " " + x.ageOf(2));
        });
        s.says("Its position is (s + a / p) mod 12, where s is its start position, a is its age, p is its period, and the "
                + "division is an integer division.", check -> {
                    for (int period = 1; period <= 12; period++) {
                        BathtubTides x = new BathtubTides();
                        x.addSoftMoon(1, 11, period);
                        check.same("at first", 11, x.positionOf(0));
                        if (period > 1) {
                            x.advance(period - 1);
                        }
                        check.same("before the first move", 11, x.positionOf(0));
                        x.advance(1);
                        check.same("the first move, over the top", 0, x.positionOf(0));
                        Tubs.pass(x, 11 * period - 1);
                        check.same("before a whole circle", 10, x.positionOf(0));
                        x.advance(1);
                        check.same("a whole circle", 11, x.positionOf(0));
                        Tubs.pass(x, 120 * period);
                        check.same("ten more", 11, x.positionOf(0));
                    }
                });
    }

    /** Moons of different kinds, masses, positions, periods and ages, of which the others keep theirs. */
    private static void removeFromAFullTub(Check check, int removed) {
        BathtubTides x = Tubs.full();
        String rest = "";
        for (int moon = 0; moon < 5; moon++) {
            rest += moon == removed ? "" : Check.moon(x, moon) + " aged " + x.ageOf(moon) + ", ";
        }
        String floods = x.floodsOf(0) + " " + x.floodsOf(1) + " " + x.floodsOf(2) + " " + x.floodsOf(3);
        x.removeMoon(removed);
        String got = "";
        for (int moon = 0; moon < 4; moon++) {
            got += Check.moon(x, moon) + " aged " + x.ageOf(moon) + ", ";
        }
        check.same("the rest without " + removed, rest, got);
        for (int i = 0; i < 4; i++) {
            check.same("the toes stay", true, x.hasToe(3 * i + 1));
            check.same("the towels stay", 3 * i + " " + 10 * i, x.shoreOf(i) + " " + x.heightOf(i));
        }
        check.same("the floods stay", floods,
                x.floodsOf(0) + " " + x.floodsOf(1) + " " + x.floodsOf(2) + " " + x.floodsOf(3));
    }

    private static void mass(Sentences s) {
        s.of("Terms, Mass");
        s.says("The mass of a hard moon is always its initial mass.", check -> {
            BathtubTides x = new BathtubTides();
            x.addHardMoon(1, 0, 1);
            x.addHardMoon(6, 0, 1);
            for (int minutes : new int[] {1, 8, 1, 1, 49, 60, 60}) {
                check.same("at " + x.time(), "1 6", x.massOf(0) + " " + x.massOf(1));
                x.advance(minutes);
            }
            check.same("at the end", "1 6", x.massOf(0) + " " + x.massOf(1));
        });
        s.says("The mass of a soft moon is its initial mass minus its age / 10, but at least 0.", check -> {
            for (int mass = 1; mass <= 6; mass++) {
                BathtubTides x = new BathtubTides();
                x.addSoftMoon(mass, 0, 1);
                for (int left = mass; left > 0; left--) {
                    check.same("at " + x.time(), left, x.massOf(0));
                    x.advance(9);
                    check.same("just before the loss at " + x.time(), left, x.massOf(0));
                    x.advance(1);
                }
                check.same("nothing is left", 0, x.massOf(0));
                x.advance(10);
                check.same("not below 0", 0, x.massOf(0));
                x.advance(60);
                check.same("not below 0", 0, x.massOf(0));
                check.same("nor in its pull", 0, x.tideAt(3) + x.tideAt(0));
            }
        });
        s.says("The mass of a bubble moon is its initial mass if its age is even, otherwise its initial mass / 2.",
                check -> {
                    int[] half = {0, 0, 1, 1, 2, 2, 3};
                    for (int mass = 1; mass <= 6; mass++) {
                        BathtubTides x = new BathtubTides();
                        x.advance(1);
                        x.addBubbleMoon(mass, 0, 1);
                        for (int age = 0; age < 5; age++) {
                            check.same(mass + " at " + age, age % 2 == 0 ? mass : half[mass], x.massOf(0));
                            x.advance(1);
                        }
                    }
                });
    }

    private static void tides(Sentences s) {
        s.of("Terms, Tides");
        s.says("A moon is eclipsed if there is a plug and the position of the moon is opposite to the position of the plug.",
                check -> {
                    int[][] opposite = {{0, 6}, {6, 0}, {5, 11}, {11, 5}};
                    for (int[] pair : opposite) {
                        BathtubTides x = new BathtubTides();
                        x.addHardMoon(1, pair[0], 2);
                        check.same("no plug", false, x.isEclipsed(0));
                        x.insertPlug(pair[1]);
                        check.same("opposite", true, x.isEclipsed(0));
                        x.insertPlug((pair[1] + 1) % 12);
                        check.same("a step too far", false, x.isEclipsed(0));
                        x.advance(2);
                        check.same("the moon comes after it", true, x.isEclipsed(0));
                        x.pullPlug();
                        check.same("no plug any more", false, x.isEclipsed(0));
                    }
                });
        s.says("The pull of a moon at a position of the rim is 0 if the moon is eclipsed, otherwise m * (3 - d), where m is "
                + "its mass and d is the distance of both positions; this can be negative.", check -> {
                    BathtubTides x = new BathtubTides();
                    x.addHardMoon(6, 0, 12);
                    check.same("at most", 18, x.tideAt(0));
                    check.same("at distance 2", 6, x.tideAt(10));
                    check.same("at distance 3", 0, x.tideAt(3));
                    check.same("at distance 4", -6, x.tideAt(4));
                    check.same("at least", -18, x.tideAt(6));
                    x.insertPlug(6);
                    for (int position = 0; position < 12; position++) {
                        check.same("eclipsed, at " + position, 0, x.tideAt(position));
                    }
                    x.advance(12);
                    check.same("no longer", 12, x.tideAt(0));
                    BathtubTides y = new BathtubTides();
                    y.addBubbleMoon(1, 0, 12);
                    y.advance(1);
                    check.same("without mass", "0 0", y.tideAt(0) + " " + y.tideAt(6));
                });
        s.says("The tide at a position is the sum of the pulls of all moons at this position.", check -> {
            BathtubTides x = new BathtubTides();
            check.same("no moons", 0, x.tideAt(0));
            for (int moon = 1; moon <= 5; moon++) {
                x.addHardMoon(6, 4, 12);
                check.same("highest", 18 * moon, x.tideAt(4));
                check.same("lowest", -18 * moon, x.tideAt(10));
            }
            BathtubTides y = new BathtubTides();
            y.addHardMoon(2, 1, 12);
            y.addSoftMoon(2, 7, 12);
            for (int position = 0; position < 12; position++) {
                check.same("opposite moons, at " + position, 0, y.tideAt(position));
            }
            y.insertPlug(1);
            check.same("one of them eclipsed", "6 -6", y.tideAt(1) + " " + y.tideAt(7));
        });
        s.says("If there is a toe at the position, the tide is half of this sum, rounded towards 0.", check -> {
            BathtubTides x = new BathtubTides();
            x.addHardMoon(1, 0, 12);
            for (int position : new int[] {0, 2, 4, 6}) {
                x.placeToe(position);
            }
            check.same("of 3, 1, -1 and -3", "1 0 0 -1",
                    x.tideAt(0) + " " + x.tideAt(2) + " " + x.tideAt(4) + " " + x.tideAt(6));
            check.same("beside the toes", "2 0 -2", x.tideAt(1) + " " + x.tideAt(3) + " " + x.tideAt(5));
            x.addHardMoon(1, 0, 12);
            check.same("the sum, not each pull", "3 1 -1 -3",
                    x.tideAt(0) + " " + x.tideAt(2) + " " + x.tideAt(4) + " " + x.tideAt(6));
            x.addHardMoon(5, 0, 12);
            check.same("of 21, 7, -7 and -21", "10 3 -3 -10",
                    x.tideAt(0) + " " + x.tideAt(2) + " " + x.tideAt(4) + " " + x.tideAt(6));
            x.removeToe(6);
            check.same("without the toe", -21, x.tideAt(6));
        });
        s.says("The level at a position is the base level plus the tide, but at least 0.", check -> {
            int[] mass = {1, 2, 3, 6};
            int[] level = {1, 0, 0, 0};
            for (int i = 0; i < mass.length; i++) {
                BathtubTides x = new BathtubTides();
                x.addHardMoon(6, 6, 12);
                x.addHardMoon(mass[i], 4, 12);
                check.same("tide", -18 - mass[i], x.tideAt(0));
                check.same("level with a tide of " + x.tideAt(0), level[i], x.levelAt(0));
            }
            BathtubTides empty = Tubs.withBase(0);
            check.same("without water", 0, empty.levelAt(0));
            empty.addHardMoon(1, 0, 12);
            check.same("the tide alone", "3 0 0", empty.levelAt(0) + " " + empty.levelAt(3) + " " + empty.levelAt(4));
            BathtubTides full = Tubs.withBase(40);
            for (int moon = 0; moon < 5; moon++) {
                full.addHardMoon(6, 0, 12);
            }
            check.same("the highest of all", 130, full.levelAt(0));
        });
    }

    private static void towels(Sentences s) {
        s.of("Terms, Towels");
        s.says("There are at most 4 towels, numbered from 0 in the order in which they were laid, at most one at each "
                + "position.", check -> {
                    BathtubTides x = new BathtubTides();
                    int[] shores = {11, 0, 6, 5};
                    for (int towel = 0; towel < 4; towel++) {
                        int shore = shores[towel];
                        check.same("the number", towel, x.layTowel(shore, 10));
                        check.fails("a second one there", STATE, () -> x.layTowel(shore, 20));
                    }
                    check.fails("the fifth", STATE, () -> x.layTowel(1, 10));
                    for (int towel = 0; towel < 4; towel++) {
                        check.same("in order", shores[towel], x.shoreOf(towel));
                        check.same("the first one's height", 10, x.heightOf(towel));
                    }
                    check.same("count", 4, x.towelCount());
                    x.removeTowel(1);
                    check.fails("still one there", STATE, () -> x.layTowel(11, 10));
                    check.same("a fourth again, at the free position", 3, x.layTowel(0, 10));
                });
        s.says("When a towel is removed, the numbers of the later towels decrease by 1.", check -> {
            String[] due = {"3 6 9", "0 6 9", "0 3 9", "0 3 6"};
            for (int removed = 0; removed < 4; removed++) {
                BathtubTides x = Tubs.withTowels(4);
                x.removeTowel(removed);
                check.same("without " + removed, due[removed], x.shoreOf(0) + " " + x.shoreOf(1) + " " + x.shoreOf(2));
                check.fails("the last number is free", INDEX, () -> x.shoreOf(3));
            }
            BathtubTides wet = Tubs.withWetTowels();
            wet.removeTowel(1);
            check.same("water and floods", "4 4, 2 2, 1 1", wet.absorbedBy(0) + " " + wet.floodsOf(0) + ", "
                    + wet.absorbedBy(1) + " " + wet.floodsOf(1) + ", " + wet.absorbedBy(2) + " " + wet.floodsOf(2));
            BathtubTides x = Tubs.withTowels(1);
            x.removeTowel(0);
            check.fails("the only one", INDEX, () -> x.shoreOf(0));
        });
        s.says("A towel has a height from 0 to 60 and has absorbed 0 to 5 units of water (initially 0).", check -> {
            BathtubTides x = new BathtubTides();
            x.layTowel(0, 0);
            x.layTowel(1, 60);
            check.same("heights", "0 60", x.heightOf(0) + " " + x.heightOf(1));
            for (int height : Tubs.outside(0, 60)) {
                check.fails("height " + height, ARGUMENT, () -> x.layTowel(2, height));
            }
            for (int absorbed = 0; absorbed <= 5; absorbed++) {
                check.same("absorbed", absorbed + " 0", x.absorbedBy(0) + " " + x.absorbedBy(1));
                x.advance(1);
            }
            check.same("5 at most", "5 0", x.absorbedBy(0) + " " + x.absorbedBy(1));
            x.layTowel(2, 0);
            check.same("a later one is dry, too", 0, x.absorbedBy(2));
            BathtubTides wet = Tubs.withWetTowels();
            wet.removeTowel(0);
            wet.layTowel(0, 60);
            check.same("one with the number that a wet one had", "0 0", wet.absorbedBy(3) + " " + wet.floodsOf(3));
        });
    }

    private static void minutes(Sentences s) {
        s.of("Terms, Minutes");
        s.says("The base level is from 0 to 40.", check -> {
            BathtubTides x = Tubs.withBase(40);
            x.setFlow(1);
            x.advance(12);
            check.same("not above 40", 40, x.baseLevel());
            BathtubTides y = Tubs.withBase(0);
            y.setFlow(-1);
            y.advance(12);
            check.same("not below 0", 0, y.baseLevel());
            y.layTowel(0, 0);
            y.addHardMoon(6, 0, 12);
            check.same("nor by a towel", 0, y.advance(12));
            check.same("nor by a towel", 0, y.baseLevel());
            BathtubTides z = Tubs.withWetTowel(40);
            z.wringTowel(0);
            check.same("nor above it by wringing", 40, z.baseLevel());
        });
        s.says("When a minute passes, the time increases by 1.", check -> {
            BathtubTides x = new BathtubTides();
            for (int time = 0; time < 25; time++) {
                check.same("time", time, x.time());
                x.advance(1);
            }
            x.advance(60);
            check.same("60 at once", 85, x.time());
        });
        s.says("Then, if the time is a multiple of 12, the flow of the taps, from -3 to 3 (initially 0), is added to the base "
                + "level, which is limited to the range from 0 to 40.", check -> {
                    flowAtAMultipleOf12(check);
                    flowWithinTheRange(check);
                });
        s.says("Then the towels act in the order of their numbers: if the level at the position of a towel is greater than "
                + "its height, the towel has absorbed less than 5 units and the base level is at least 1, the towel absorbs "
                + "1 unit, the base level decreases by 1, and this is a flood of the towel.", check -> {
                    towelsInOrder(check);
                    towelsAboveTheirHeight(check);
                    towelsUpTo5(check);
                    towelsOfAnEmptyTub(check);
                });
    }

    private static void flowAtAMultipleOf12(Check check) {
        BathtubTides x = new BathtubTides();
        check.same("closed at first", 0, x.flow());
        x.advance(12);
        check.same("closed", 20, x.baseLevel());
        x.setFlow(3);
        x.advance(11);
        check.same("at 23", 20, x.baseLevel());
        x.advance(1);
        check.same("at 24", 23, x.baseLevel());
        x.advance(1);
        check.same("at 25", 23, x.baseLevel());
        x.advance(10);
        x.setFlow(-2);
        x.advance(1);
        check.same("set just before 36", 21, x.baseLevel());
        x.setFlow(-3);
        check.same("set just after it", 21, x.baseLevel());
        x.advance(12);
        check.same("at 48", 18, x.baseLevel());
        for (int flow : Tubs.outside(-3, 3)) {
            check.fails("flow " + flow, ARGUMENT, () -> x.setFlow(flow));
        }
    }

    private static void flowWithinTheRange(Check check) {
        for (int base = 35; base <= 40; base++) {
            for (int flow = -3; flow <= 3; flow++) {
                BathtubTides x = Tubs.withBase(base);
                x.setFlow(flow);
                x.advance(12);
                check.same(base + " and " + flow, Math.min(40, base + flow), x.baseLevel());
            }
        }
        for (int base = 0; base <= 4; base++) {
            for (int flow = -3; flow <= 3; flow++) {
                BathtubTides x = Tubs.withBase(base);
                x.setFlow(flow);
                x.advance(12);
                check.same(base + " and " + flow, Math.max(0, base + flow), x.baseLevel());
            }
        }
    }

    private static void towelsInOrder(Check check) {
        for (int first : new int[] {0, 11}) {
            BathtubTides x = Tubs.withBase(1);
            x.layTowel(first, 0);
            x.layTowel(11 - first, 0);
            check.same("the first takes the last unit", 1, x.advance(1));
            check.same("absorbed", "1 0", x.absorbedBy(0) + " " + x.absorbedBy(1));
            check.same("floods", "1 0", x.floodsOf(0) + " " + x.floodsOf(1));
            check.same("base", 0, x.baseLevel());
        }
        BathtubTides y = new BathtubTides();
        for (int towel = 0; towel < 4; towel++) {
            y.layTowel(towel, 18);
        }
        check.same("each finds one unit less", 2, y.advance(1));
        check.same("floods", "1 1 0 0", y.floodsOf(0) + " " + y.floodsOf(1) + " " + y.floodsOf(2) + " " + y.floodsOf(3));
        check.same("base", 18, y.baseLevel());
        BathtubTides taps = Tubs.withBase(39);
        taps.setFlow(3);
        taps.layTowel(0, 39);
        check.same("no flood by the taps yet", 0, taps.advance(11));
        check.same("the taps come first and stop at 40", "1 39", taps.advance(1) + " " + taps.baseLevel());
    }

    private static void towelsAboveTheirHeight(Check check) {
        int[] height = {21, 20, 19, 18};
        int[] floods = {0, 0, 1, 2};
        for (int i = 0; i < height.length; i++) {
            BathtubTides x = new BathtubTides();
            x.layTowel(7, height[i]);
            check.same("height " + height[i], floods[i], x.advance(60));
            check.same("base", 20 - floods[i], x.baseLevel());
            check.same("absorbed", floods[i], x.absorbedBy(0));
        }
        BathtubTides high = new BathtubTides();
        high.addHardMoon(6, 0, 12);
        high.layTowel(0, 38);
        high.layTowel(1, 31);
        check.same("the level, not the base", 1, high.advance(1));
        check.same("floods", "0 1", high.floodsOf(0) + " " + high.floodsOf(1));
        BathtubTides most = Tubs.withBase(40);
        for (int moon = 0; moon < 5; moon++) {
            most.addHardMoon(6, 0, 12);
        }
        most.layTowel(0, 60);
        check.same("over the greatest height", 5, most.advance(9));
        BathtubTides low = new BathtubTides();
        low.addHardMoon(6, 6, 12);
        low.addHardMoon(2, 4, 12);
        low.layTowel(0, 0);
        check.same("a level of 0 is not above a height of 0", 0, low.advance(1));
        low.addHardMoon(1, 0, 12);
        check.same("a level of 3 is", 1, low.advance(1));
    }

    private static void towelsUpTo5(Check check) {
        BathtubTides x = new BathtubTides();
        x.layTowel(0, 0);
        check.same("four", 4, x.advance(4));
        check.same("the fifth", 1, x.advance(1));
        check.same("no sixth", 0, x.advance(1));
        check.same("base", 15, x.baseLevel());
        check.same("absorbed and floods", "5 5", x.absorbedBy(0) + " " + x.floodsOf(0));
    }

    private static void towelsOfAnEmptyTub(Check check) {
        BathtubTides x = Tubs.withBase(1);
        x.addHardMoon(6, 0, 12);
        x.layTowel(0, 0);
        check.same("with 1 unit", 1, x.advance(1));
        check.same("the base is 0, the level is not", "0 18", x.baseLevel() + " " + x.levelAt(0));
        check.same("with 0 units", 0, x.advance(1));
        check.same("absorbed", 1, x.absorbedBy(0));
    }

    private static void clarifications(Sentences s) {
        s.of("Terms, Clarifications");
        s.says("The level at a towel is that at the new time.", check -> {
            BathtubTides comes = new BathtubTides();
            comes.addHardMoon(1, 0, 1);
            comes.layTowel(1, 22);
            check.same("the level that the moon brings", 1, comes.advance(1));
            BathtubTides goes = new BathtubTides();
            goes.addHardMoon(1, 1, 1);
            goes.layTowel(1, 22);
            check.same("not the one that it takes away", 0, goes.advance(1));
            BathtubTides soft = new BathtubTides();
            soft.addSoftMoon(1, 0, 12);
            soft.advance(9);
            soft.layTowel(0, 20);
            check.same("the mass at the new time", 0, soft.advance(1));
            BathtubTides bubble = new BathtubTides();
            bubble.addBubbleMoon(1, 0, 12);
            bubble.advance(1);
            bubble.layTowel(0, 20);
            check.same("the mass at the new time", 1, bubble.advance(1));
            BathtubTides shaded = new BathtubTides();
            shaded.addHardMoon(1, 11, 1);
            shaded.insertPlug(6);
            shaded.layTowel(0, 20);
            check.same("the eclipse at the new time", 0, shaded.advance(1));
            BathtubTides taps = new BathtubTides();
            taps.layTowel(0, 20);
            taps.setFlow(1);
            taps.advance(11);
            check.same("the base level at the new time", 1, taps.advance(1));
        });
        s.says("A towel that is wrung keeps its number of floods.", check -> {
            BathtubTides x = new BathtubTides();
            x.layTowel(0, 0);
            x.wringTowel(0);
            check.same("none", 0, x.floodsOf(0));
            x.advance(5);
            x.wringTowel(0);
            check.same("kept", "0 5", x.absorbedBy(0) + " " + x.floodsOf(0));
            x.advance(5);
            check.same("counted on", "5 10", x.absorbedBy(0) + " " + x.floodsOf(0));
            BathtubTides y = Tubs.withWetTowel(40);
            y.wringTowel(0);
            check.same("kept when its water is spilled", "0 5", y.absorbedBy(0) + " " + y.floodsOf(0));
        });
        // two moons meet within 1342 minutes or never, so that no later minute than this one can be asked for
        s.says("A conjunction after exactly 2000 minutes is found.", check -> {
            BathtubTides x = PredictionSentencesTest.lastToMeet();
            check.same("the latest that there is", 1342, x.conjunctionIn(0, 1));
            check.same("the latest that there is", 1342, x.conjunctionByMoves(0, 1));
            BathtubTides never = new BathtubTides();
            never.addHardMoon(1, 0, 1);
            never.addHardMoon(1, 1, 1);
            check.fails("never", NO_SUCH, () -> never.conjunctionIn(0, 1));
            check.fails("never", NO_SUCH, () -> never.conjunctionByMoves(0, 1));
        });
        s.says("The letters of a position in the line stand in the order \"t\", \"p\", \"w\".", check -> {
            String[] letters = {"", "t", "p", "tp", "w", "tw", "pw", "tpw"};
            List<String> got = new ArrayList<>();
            for (int set = 0; set < 8; set++) {
                BathtubTides x = new BathtubTides();
                if ((set & 4) != 0) {
                    x.layTowel(11, 60);
                }
                if ((set & 2) != 0) {
                    x.insertPlug(11);
                }
                if ((set & 1) != 0) {
                    x.placeToe(11);
                }
                got.add(Check.rim(x).substring(35));
            }
            check.same("letters", List.of(letters), got);
        });
        s.says("They assume that nothing but time changes.", check -> {
            BathtubTides x = Tubs.withBase(1);
            x.addSoftMoon(6, 0, 12);
            x.layTowel(0, 0);
            x.setFlow(3);
            x.insertPlug(5);
            String before = Check.all(x);
            check.same("nor is any mass left then", 0, x.tideIn(0, 132));
            check.same("the loss of mass counts", 10, x.tideIn(0, 13));
            check.same("the plug stays for all 132 minutes", 132, x.eclipseIn(0));
            check.same("they change nothing", before, Check.all(x));
        });
    }
}
