/** Promises 43 to 48: line, statistics and checks. */
final class LineTest {
    private static final Class<IndexOutOfBoundsException> INDEX = IndexOutOfBoundsException.class;
    private static final Check check = new Check("LineTest");

    public static void main(String[] args) {
        promise43Rim();
        promise44Moon();
        promise45LineAt();
        promise46MeanLevel();
        promise47EclipsedShare();
        promise48Balanced();
        check.close();
    }

    private static void promise43Rim() {
        BathtubTides x = new BathtubTides();
        check.same("length", 35, x.writeRim());
        check.same("rim", "20 20 20 20 20 20 20 20 20 20 20 20", Check.line(x, 35));
        x.placeToe(1);
        x.layTowel(1, 60);
        x.insertPlug(2);
        check.same("the document's beginning", "20 20tw 20p 20", Check.rim(x).substring(0, 14));
        x.insertPlug(1);
        x.layTowel(0, 60);
        x.placeToe(11);
        check.same("letters in their order", "20w 20tpw 20 20 20 20 20 20 20 20 20 20t", Check.rim(x));
        x.insertPlug(11);
        x.layTowel(3, 60);
        check.same("two letters", "20w 20tw 20 20w 20 20 20 20 20 20 20 20tp", Check.rim(x));
        x.placeToe(5);
        x.layTowel(5, 60);
        x.insertPlug(3);
        x.addHardMoon(4, 5, 1);
        check.same("levels", "12w 18tw 20 24pw 28 26tw 28 24 20 16 12 14t", Check.rim(x));
        check.same("length", 43, x.writeRim());
        x.removeToe(1);
        x.removeTowel(0);
        x.pullPlug();
        check.same("gone", "12w 16 20 24w 28 26tw 28 24 20 16 12 14t", Check.rim(x));

        BathtubTides high = new BathtubTides();
        high.setFlow(3);
        for (int i = 0; i < 2; i++) {
            high.advance(60);
        }
        for (int i = 0; i < 5; i++) {
            high.addHardMoon(6, 0, 12);
        }
        check.same("three digits and one", "130 100 70 40 10 0 0 0 10 40 70 100", Check.rim(high));
    }

    private static void promise44Moon() {
        BathtubTides x = new BathtubTides();
        x.addSoftMoon(4, 11, 12);
        x.addHardMoon(6, 0, 1);
        x.addBubbleMoon(5, 3, 2);
        x.insertPlug(5);
        check.same("the document's", "s4@11!", Check.moon(x, 0));
        check.same("length", 6, x.writeMoon(0));
        check.same("hard", "h6@0", Check.moon(x, 1));
        check.same("bubble", "b5@3", Check.moon(x, 2));
        x.advance(10);
        x.advance(1);
        check.same("as it is now", "s3@11!", Check.moon(x, 0));
        check.same("as it is now", "h6@11!", Check.moon(x, 1));
        check.same("as it is now", "b2@8", Check.moon(x, 2));
        x.advance(60);
        check.same("without mass", "s0@4", Check.moon(x, 0));
        x.removeMoon(0);
        check.same("numbers go down", 'h', Check.moon(x, 0).charAt(0));
        x.writeMoon(0);
        check.fails("no such moon", INDEX, () -> x.writeMoon(2));
        check.fails("no such moon", INDEX, () -> x.writeMoon(-1));
        check.same("the line stays", "h6@11", Check.line(x, 5));
    }

    private static void promise45LineAt() {
        BathtubTides x = new BathtubTides();
        for (int index : new int[] {Integer.MIN_VALUE, -1, 0, 1, Integer.MAX_VALUE}) {
            check.fails("empty at first", INDEX, () -> x.lineAt(index));
        }
        x.addHardMoon(2, 10, 1);
        x.writeRim();
        check.same("last", '4', x.lineAt(34));
        check.fails("behind it", INDEX, () -> x.lineAt(35));
        x.writeMoon(0);
        check.same("replaced", "h2@10", Check.line(x, 5));
        check.fails("nothing of the line before", INDEX, () -> x.lineAt(5));
        check.fails("below 0", INDEX, () -> x.lineAt(-1));
        x.removeMoon(0);
        x.undo();
        x.undo();
        check.same("the line is not undone", "h2@10", Check.line(x, 5));
        x.writeRim();
        check.same("replaced again", '2', x.lineAt(0));
        check.same("asked again", '2', x.lineAt(0));
    }

    private static void promise46MeanLevel() {
        BathtubTides x = new BathtubTides();
        check.same("calm", 20.0, x.meanLevel());
        x.addHardMoon(1, 0, 1);
        check.same("pulls add up to 0", 20.0, x.meanLevel());
        x.placeToe(0);
        check.same("3 / 2 there", 238.0 / 12.0, x.meanLevel());
        for (int i = 0; i < 4; i++) {
            x.addHardMoon(6, 6, 1);
        }
        int sum = 0;
        for (int position = 0; position < 12; position++) {
            sum += x.levelAt(position);
        }
        check.same("levels, not tides", sum / 12.0, x.meanLevel());
        check.same("levels are at least 0", true, x.meanLevel() > 20.0);
    }

    private static void promise47EclipsedShare() {
        BathtubTides x = new BathtubTides();
        check.fails("no moons", ArithmeticException.class, () -> x.eclipsedShare());
        x.insertPlug(6);
        check.fails("no moons", ArithmeticException.class, () -> x.eclipsedShare());
        x.addHardMoon(1, 0, 1);
        check.same("all", 1f, x.eclipsedShare());
        x.addSoftMoon(1, 1, 1);
        x.addBubbleMoon(1, 6, 1);
        check.same("one of three", 1f / 3f, x.eclipsedShare());
        x.addHardMoon(1, 0, 1);
        x.addHardMoon(1, 2, 1);
        check.same("two of five", 2f / 5f, x.eclipsedShare());
        x.pullPlug();
        check.same("none", 0f, x.eclipsedShare());
        x.insertPlug(7);
        check.same("one of five", 1f / 5f, x.eclipsedShare());
    }

    private static void promise48Balanced() {
        BathtubTides x = new BathtubTides();
        check.same("at first", true, x.isBalanced());
        x.addHardMoon(6, 0, 3);
        x.addBubbleMoon(5, 2, 1);
        x.addSoftMoon(6, 4, 2);
        x.layTowel(0, 5);
        x.layTowel(1, 0);
        x.insertPlug(3);
        x.placeToe(2);
        for (int flow : new int[] {3, -3, 2, -1, 0, 3, 3}) {
            x.setFlow(flow);
            x.advance(60);
            check.same("after taps and floods", true, x.isBalanced());
            x.wringTowel(1);
            check.same("after wringing", true, x.isBalanced());
        }
        x.removeTowel(0);
        check.same("after removing", true, x.isBalanced());
        x.undo();
        check.same("after undo", true, x.isBalanced());
    }
}
