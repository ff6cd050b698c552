import java.util.Objects;

/** Counts the answers that a test asks for, and prints those that are not due. */
final class Check {
    interface Call {
        Object answer();
    }

    interface Maker {
        BathtubTides make();
    }

    interface Asking {
        Object of(BathtubTides x);
    }

    private final String name;
    private int asked = 0;
    private int wrong = 0;

    Check(String name) {
        this.name = name;
    }

    void same(String what, Object due, Object got) {
        asked++;
        if (!Objects.equals(due, got)) {
            wrong++;
            System.out.println(name + ": " + what + " answered " + got + ", due is " + due);
        }
    }

    /** The class must be the very one: what the machine throws is of a class below it. */
    void fails(String what, Class<? extends RuntimeException> due, Call call) {
        asked++;
        Object got;
        try {
            got = call.answer();
        } catch (RuntimeException thrown) {
            got = thrown.getClass();
        }
        if (got != due) {
            wrong++;
            System.out.println(name + ": " + what + " answered " + got + ", due is " + due);
        }
    }

    /** The call throws, and all that can be asked of the tub is as before it. */
    void refuses(String what, Class<? extends RuntimeException> due, Maker maker, Asking asking) {
        BathtubTides x = maker.make();
        String before = all(x);
        fails(what, due, () -> asking.of(x));
        same("the state after " + what, before, all(x));
    }

    boolean holds() {
        return asked > 0 && wrong == 0;
    }

    void close() {
        System.out.println(name + ": " + (asked - wrong) + " of " + asked + " answers are as due");
        if (wrong != 0 || asked == 0) {
            System.exit(1);
        }
    }

    // ---- what several tests do ----

    static void type(BathtubTides x, String text) {
        for (int i = 0; i < text.length(); i++) {
            x.type(text.charAt(i));
        }
    }

    static int execute(BathtubTides x, String text) {
        type(x, text);
        return x.execute();
    }

    static String line(BathtubTides x, int length) {
        StringBuilder line = new StringBuilder();
        for (int i = 0; i < length; i++) {
            line.append(x.lineAt(i));
        }
        return line.toString();
    }

    static String rim(BathtubTides x) {
        return line(x, x.writeRim());
    }

    static String moon(BathtubTides x, int moon) {
        return line(x, x.writeMoon(moon));
    }

    /** Everything that can be asked of a tub without changing more than its line. */
    static String all(BathtubTides x) {
        StringBuilder all = new StringBuilder();
        all.append(x.time()).append(' ').append(x.baseLevel()).append(' ').append(x.flow());
        all.append(' ').append(x.spilled()).append(" [").append(rim(x)).append(']');
        for (int moon = 0; moon < x.moonCount(); moon++) {
            all.append(" {").append(moon(x, moon)).append(' ').append(x.ageOf(moon));
            all.append(' ').append(x.isHard(moon)).append(x.isSoft(moon)).append('}');
        }
        for (int towel = 0; towel < x.towelCount(); towel++) {
            all.append(" (").append(x.shoreOf(towel)).append(' ').append(x.heightOf(towel)).append(' ');
            all.append(x.absorbedBy(towel)).append(' ').append(x.floodsOf(towel)).append(')');
        }
        for (int position = 0; position < 12; position++) {
            all.append(' ').append(x.tideIn(position, 7)).append('/').append(x.tideIn(position, 143));
        }
        return all.append(' ').append(x.isBalanced()).toString();
    }
}
