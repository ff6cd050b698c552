import java.util.NoSuchElementException;

/** A simulator and predictor of the tides in a round bathtub. */
public final class BathtubTides {
    private static final int POSITIONS = 12;
    private static final int HALF_RIM = 6;
    private static final int NONE = -1;

    private static final int MOON_LIMIT = 5;
    private static final int TOE_LIMIT = 4;
    private static final int TOWEL_LIMIT = 4;
    private static final int TOWEL_FULL = 5;
    private static final int HEIGHT_LIMIT = 60;
    private static final int BASE_AT_FIRST = 20;
    private static final int BASE_LIMIT = 40;
    private static final int FLOW_LIMIT = 3;
    private static final int ADVANCE_LIMIT = 60;
    private static final int TIDE_SPAN = 144;
    private static final int CONJUNCTION_SPAN = 2000;
    private static final int TEXT_LIMIT = 60;
    private static final int UNDO_LIMIT = 8;

    private static final int KIND_HARD = 0;
    private static final int KIND_SOFT = 1;
    private static final int KIND_BUBBLE = 2;

    private static final int DO_HARD = 0;
    private static final int DO_SOFT = 1;
    private static final int DO_BUBBLE = 2;
    private static final int DO_REMOVE = 3;
    private static final int DO_TOE = 4;
    private static final int DO_SHAVE = 5;
    private static final int DO_PLUG = 6;
    private static final int DO_PULL = 7;
    private static final int DO_TOWEL = 8;
    private static final int DO_WRING = 9;
    private static final int DO_FLOW = 10;
    private static final int DO_WAIT = 11;
    private static final int COMMAND_WORDS = 12;

    private final Tub tub = new Tub();
    private final Forecast forecast = new Forecast();
    private final History history = new History();
    private final Script script = new Script();
    private final StringBuilder line = new StringBuilder();
    private final Row beforeText = new Row(Tub.CELLS);
    private final Row snapshot = new Row(Tub.CELLS);
    private boolean snapshotTaken = false;
    private int errorAt = NONE;
    private int failedAt = NONE;

    public BathtubTides() {
    }

    // ---- moons ----

    public int addHardMoon(int mass, int position, int period) throws IllegalArgumentException, IllegalStateException {
        return addMoon(KIND_HARD, mass, position, period);
    }

    public int addSoftMoon(int mass, int position, int period) throws IllegalArgumentException, IllegalStateException {
        return addMoon(KIND_SOFT, mass, position, period);
    }

    public int addBubbleMoon(int mass, int position, int period) throws IllegalArgumentException, IllegalStateException {
        return addMoon(KIND_BUBBLE, mass, position, period);
    }

    private int addMoon(int kind, int mass, int position, int period) {
        if (!Tub.isMoonShape(mass, position, period)) {
            throw new IllegalArgumentException("mass, position or period out of range");
        }
        if (!tub.hasMoonRoom()) {
            throw new IllegalStateException("there are 5 moons");
        }
        history.keep(tub.cells);
        return tub.putMoon(kind, mass, position, period);
    }

    public int removeMoon(int moon) throws IndexOutOfBoundsException {
        requireMoon(moon);
        history.keep(tub.cells);
        return tub.dropMoon(moon);
    }

    public int moonCount() {
        return tub.moons();
    }

    public int positionOf(int moon) throws IndexOutOfBoundsException {
        requireMoon(moon);
        return tub.placeAfter(moon, 0);
    }

    public int massOf(int moon) throws IndexOutOfBoundsException {
        requireMoon(moon);
        return tub.massAfter(moon, 0);
    }

    public int ageOf(int moon) throws IndexOutOfBoundsException {
        requireMoon(moon);
        return tub.ageNow(moon);
    }

    public boolean isHard(int moon) throws IndexOutOfBoundsException {
        requireMoon(moon);
        return tub.kindOf(moon) == KIND_HARD;
    }

    public boolean isSoft(int moon) throws IndexOutOfBoundsException {
        requireMoon(moon);
        return tub.kindOf(moon) == KIND_SOFT;
    }

    public boolean isEclipsed(int moon) throws IndexOutOfBoundsException {
        requireMoon(moon);
        return tub.eclipsesAt(tub.placeAfter(moon, 0));
    }

    // ---- toes, plug and towels ----

    public int placeToe(int position) throws IndexOutOfBoundsException, IllegalStateException {
        requirePosition(position);
        if (!tub.canPutToe(position)) {
            throw new IllegalStateException("there is a toe at the position, or there are 4 toes");
        }
        history.keep(tub.cells);
        return tub.putToe(position);
    }

    public int removeToe(int position) throws IndexOutOfBoundsException, IllegalStateException {
        requirePosition(position);
        if (!tub.isToeAt(position)) {
            throw new IllegalStateException("there is no toe at the position");
        }
        history.keep(tub.cells);
        return tub.dropToe(position);
    }

    public boolean hasToe(int position) throws IndexOutOfBoundsException {
        requirePosition(position);
        return tub.isToeAt(position);
    }

    public boolean insertPlug(int position) throws IndexOutOfBoundsException {
        requirePosition(position);
        history.keep(tub.cells);
        return tub.putPlug(position) == NONE;
    }

    public int pullPlug() throws IllegalStateException {
        if (!tub.isPlugged()) {
            throw new IllegalStateException("there is no plug");
        }
        history.keep(tub.cells);
        return tub.putPlug(NONE);
    }

    public int plugPosition() throws NoSuchElementException {
        requirePlug();
        return tub.plug();
    }

    public int layTowel(int position, int height)
            throws IndexOutOfBoundsException, IllegalArgumentException, IllegalStateException {
        requirePosition(position);
        if (!Tub.isHeight(height)) {
            throw new IllegalArgumentException("height out of range");
        }
        if (!tub.canPutTowel(position)) {
            throw new IllegalStateException("there is a towel at the position, or there are 4 towels");
        }
        history.keep(tub.cells);
        return tub.putTowel(position, height);
    }

    public int removeTowel(int towel) throws IndexOutOfBoundsException {
        requireTowel(towel);
        history.keep(tub.cells);
        return tub.dropTowel(towel);
    }

    public int wringTowel(int towel) throws IndexOutOfBoundsException {
        requireTowel(towel);
        history.keep(tub.cells);
        return tub.wring(towel);
    }

    public int towelCount() {
        return tub.towels();
    }

    public int shoreOf(int towel) throws IndexOutOfBoundsException {
        requireTowel(towel);
        return tub.ofTowel(towel, Tub.SHORE);
    }

    public int heightOf(int towel) throws IndexOutOfBoundsException {
        requireTowel(towel);
        return tub.ofTowel(towel, Tub.HEIGHT);
    }

    public int absorbedBy(int towel) throws IndexOutOfBoundsException {
        requireTowel(towel);
        return tub.ofTowel(towel, Tub.ABSORBED);
    }

    public int floodsOf(int towel) throws IndexOutOfBoundsException {
        requireTowel(towel);
        return tub.ofTowel(towel, Tub.FLOODS);
    }

    // ---- time and water ----

    public int setFlow(int flow) throws IllegalArgumentException {
        if (!Tub.isFlow(flow)) {
            throw new IllegalArgumentException("flow out of range");
        }
        history.keep(tub.cells);
        return tub.turnTaps(flow);
    }

    public int advance(int minutes) throws IllegalArgumentException {
        if (!Tub.isWait(minutes)) {
            throw new IllegalArgumentException("minutes out of range");
        }
        history.keep(tub.cells);
        return tub.pass(minutes);
    }

    public int time() {
        return tub.cells.at(Tub.TIME);
    }

    public int baseLevel() {
        return tub.cells.at(Tub.BASE);
    }

    public int flow() {
        return tub.cells.at(Tub.FLOW);
    }

    public int spilled() {
        return tub.cells.at(Tub.SPILLED);
    }

    public int tideAt(int position) throws IndexOutOfBoundsException {
        requirePosition(position);
        return tub.tideAfter(position, 0);
    }

    public int levelAt(int position) throws IndexOutOfBoundsException {
        requirePosition(position);
        return tub.level(position);
    }

    public int highestShore() {
        int highest = 0;
        for (int position = 1; position < POSITIONS; position++) {
            if (tub.level(position) > tub.level(highest)) {
                highest = position;
            }
        }
        return highest;
    }

    // ---- predictions ----

    public int tideIn(int position, int minutes) throws IndexOutOfBoundsException, IllegalArgumentException {
        requirePosition(position);
        requireTideMinutes(minutes);
        return tub.tideAfter(position, minutes);
    }

    public int tideBySteps(int position, int minutes) throws IndexOutOfBoundsException, IllegalArgumentException {
        requirePosition(position);
        requireTideMinutes(minutes);
        return forecast.steppedTide(tub, position, minutes);
    }

    public int highTideIn(int position) throws IndexOutOfBoundsException {
        requirePosition(position);
        return Forecast.highest(tub, position);
    }

    public int lowTideIn(int position) throws IndexOutOfBoundsException {
        requirePosition(position);
        return Forecast.lowest(tub, position);
    }

    public int eclipseIn(int moon) throws IndexOutOfBoundsException, NoSuchElementException {
        requireMoon(moon);
        requirePlug();
        return Forecast.eclipse(tub, moon);
    }

    public int conjunctionIn(int moon, int other) throws IndexOutOfBoundsException, NoSuchElementException {
        requireMoon(moon);
        requireMoon(other);
        return found(Forecast.meetingByMinutes(tub, moon, other));
    }

    public int conjunctionByMoves(int moon, int other) throws IndexOutOfBoundsException, NoSuchElementException {
        requireMoon(moon);
        requireMoon(other);
        return found(Forecast.meetingByMoves(tub, moon, other));
    }

    // ---- line, statistics and checks ----

    public int writeRim() {
        line.setLength(0);
        for (int position = 0; position < POSITIONS; position++) {
            if (position > 0) {
                line.append(' ');
            }
            line.append(tub.level(position));
            writeLetter(tub.isToeAt(position), 't');
            writeLetter(tub.plug() == position, 'p');
            writeLetter(tub.isTowelAt(position), 'w');
        }
        return line.length();
    }

    public int writeMoon(int moon) throws IndexOutOfBoundsException {
        requireMoon(moon);
        int kind = tub.kindOf(moon);
        int place = tub.placeAfter(moon, 0);
        line.setLength(0);
        line.append(kind == KIND_HARD ? 'h' : kind == KIND_SOFT ? 's' : 'b');
        line.append(tub.massAfter(moon, 0));
        line.append('@');
        line.append(place);
        writeLetter(tub.eclipsesAt(place), '!');
        return line.length();
    }

    private void writeLetter(boolean due, char letter) {
        if (due) {
            line.append(letter);
        }
    }

    public char lineAt(int index) throws IndexOutOfBoundsException {
        if (index < 0 || index >= line.length()) {
            throw new IndexOutOfBoundsException("no such character");
        }
        return line.charAt(index);
    }

    public double meanLevel() {
        int sum = 0;
        for (int position = 0; position < POSITIONS; position++) {
            sum += tub.level(position);
        }
        return (double) sum / (double) POSITIONS;
    }

    public float eclipsedShare() throws ArithmeticException {
        int moons = tub.moons();
        if (moons == 0) {
            throw new ArithmeticException("there are no moons");
        }
        int eclipsed = 0;
        for (int moon = 0; moon < moons; moon++) {
            if (tub.eclipsesAt(tub.placeAfter(moon, 0))) {
                eclipsed++;
            }
        }
        return (float) eclipsed / (float) moons;
    }

    public boolean isBalanced() {
        return tub.keepsWater() && forecast.agreesIn(tub, 0) && forecast.agreesIn(tub, 1)
                && forecast.agreesIn(tub, 5) && forecast.agreesIn(tub, 20);
    }

    // ---- text, undo and snapshots ----

    public int type(char character) throws IllegalArgumentException, IllegalStateException {
        if (character < 32 || character > 126) {
            throw new IllegalArgumentException("character out of range");
        }
        if (script.length() >= TEXT_LIMIT) {
            throw new IllegalStateException("the buffer contains 60 characters");
        }
        return script.append(character);
    }

    public int execute() throws IllegalArgumentException, IllegalStateException {
        boolean wellFormed = script.read();
        script.empty();
        if (!wellFormed) {
            errorAt = script.errorPlace();
            throw new IllegalArgumentException("the text is malformed");
        }
        beforeText.copy(tub.cells, 0, 0, Tub.CELLS);
        for (int index = 0; index < script.commands(); index++) {
            int command = script.commandAt(index);
            int first = script.numberAt(index, 0);
            int second = script.numberAt(index, 1);
            int third = script.numberAt(index, 2);
            if (!tub.allows(command, first, second, third)) {
                tub.cells.copy(beforeText, 0, 0, Tub.CELLS);
                failedAt = index;
                throw new IllegalStateException("a command failed");
            }
            tub.obey(command, first, second, third);
        }
        history.keep(beforeText);
        return script.commands();
    }

    public int errorPosition() throws NoSuchElementException {
        if (errorAt == NONE) {
            throw new NoSuchElementException("no text was malformed so far");
        }
        return errorAt;
    }

    public int failedCommand() throws NoSuchElementException {
        if (failedAt == NONE) {
            throw new NoSuchElementException("no command failed so far");
        }
        return failedAt;
    }

    public int undo() throws IllegalStateException {
        if (history.size() == 0) {
            throw new IllegalStateException("nothing can be undone");
        }
        history.takeBack(tub.cells);
        return history.size();
    }

    public int save() {
        snapshot.copy(tub.cells, 0, 0, Tub.CELLS);
        snapshotTaken = true;
        return tub.moons();
    }

    public int restore() throws IllegalStateException {
        if (!snapshotTaken) {
            throw new IllegalStateException("there is no snapshot");
        }
        tub.cells.copy(snapshot, 0, 0, Tub.CELLS);
        history.forget();
        return tub.moons();
    }

    // ---- what the methods of the face require ----

    private void requireMoon(int moon) {
        if (!tub.isMoon(moon)) {
            throw new IndexOutOfBoundsException("there is no such moon");
        }
    }

    private void requireTowel(int towel) {
        if (!tub.isTowel(towel)) {
            throw new IndexOutOfBoundsException("there is no such towel");
        }
    }

    private static void requirePosition(int position) {
        if (!Tub.isPosition(position)) {
            throw new IndexOutOfBoundsException("there is no such position");
        }
    }

    private void requirePlug() {
        if (!tub.isPlugged()) {
            throw new NoSuchElementException("there is no plug");
        }
    }

    private static void requireTideMinutes(int minutes) {
        if (minutes < 0 || minutes > TIDE_SPAN) {
            throw new IllegalArgumentException("minutes out of range");
        }
    }

    private static int found(int minutes) {
        if (minutes == NONE) {
            throw new NoSuchElementException("no conjunction in the next 2000 minutes");
        }
        return minutes;
    }

    /** A row of numbers that tests every index: what lies outside of it reads 0 and takes nothing. */
    private static final class Row {
        private final int[] numbers;

        Row(int length) {
            numbers = new int[length < 0 ? 0 : length];
        }

        int at(int index) {
            return index < 0 || index >= numbers.length ? 0 : numbers[index];
        }

        void put(int index, int number) {
            if (index >= 0 && index < numbers.length) {
                numbers[index] = number;
            }
        }

        void add(int index, int number) {
            put(index, at(index) + number);
        }

        /** Copies upwards, so that a row may also move its own later numbers to an earlier place. */
        void copy(Row source, int from, int to, int length) {
            for (int i = 0; i < length; i++) {
                put(to + i, source.at(from + i));
            }
        }
    }

    /** The state, and what happens to it. It stands in one row, so that to keep it is to copy that row. */
    private static final class Tub {
        static final int TIME = 0;
        static final int BASE = 1;
        static final int FLOW = 2;
        static final int SPILLED = 3;
        static final int TAPPED = 4;
        static final int PLUG = 5;
        static final int MOONS = 6;
        static final int TOWELS = 7;

        static final int FIRST_TOE = 8;

        static final int FIRST_MOON = FIRST_TOE + POSITIONS;
        static final int KIND = 0;
        static final int MASS = 1;
        static final int START = 2;
        static final int PERIOD = 3;
        static final int BORN = 4;
        static final int MOON_CELLS = 5;

        static final int FIRST_TOWEL = FIRST_MOON + MOON_LIMIT * MOON_CELLS;
        static final int SHORE = 0;
        static final int HEIGHT = 1;
        static final int ABSORBED = 2;
        static final int FLOODS = 3;
        static final int TOWEL_CELLS = 4;

        static final int CELLS = FIRST_TOWEL + TOWEL_LIMIT * TOWEL_CELLS;

        final Row cells = new Row(CELLS);

        Tub() {
            cells.put(BASE, BASE_AT_FIRST);
            cells.put(PLUG, NONE);
        }

        // -- what may be asked for --

        static boolean isPosition(int position) {
            return position >= 0 && position < POSITIONS;
        }

        static boolean isMoonShape(int mass, int position, int period) {
            return mass >= 1 && mass <= 6 && isPosition(position) && period >= 1 && period <= 12;
        }

        static boolean isHeight(int height) {
            return height >= 0 && height <= HEIGHT_LIMIT;
        }

        static boolean isFlow(int flow) {
            return flow >= -FLOW_LIMIT && flow <= FLOW_LIMIT;
        }

        static boolean isWait(int minutes) {
            return minutes >= 1 && minutes <= ADVANCE_LIMIT;
        }

        boolean isMoon(int moon) {
            return moon >= 0 && moon < moons();
        }

        boolean hasMoonRoom() {
            return moons() < MOON_LIMIT;
        }

        boolean isTowel(int towel) {
            return towel >= 0 && towel < towels();
        }

        boolean canPutToe(int position) {
            return !isToeAt(position) && toes() < TOE_LIMIT;
        }

        boolean canPutTowel(int position) {
            return !isTowelAt(position) && towels() < TOWEL_LIMIT;
        }

        /** Whether the method that a command stands for would throw nothing. */
        boolean allows(int command, int first, int second, int third) {
            switch (command) {
                case DO_HARD:
                case DO_SOFT:
                case DO_BUBBLE:
                    return isMoonShape(first, second, third) && hasMoonRoom();
                case DO_REMOVE:
                    return isMoon(first);
                case DO_TOE:
                    return isPosition(first) && canPutToe(first);
                case DO_SHAVE:
                    return isPosition(first) && isToeAt(first);
                case DO_PLUG:
                    return isPosition(first);
                case DO_PULL:
                    return isPlugged();
                case DO_TOWEL:
                    return isPosition(first) && isHeight(second) && canPutTowel(first);
                case DO_WRING:
                    return isTowel(first);
                case DO_FLOW:
                    return isFlow(first);
                case DO_WAIT:
                    return isWait(first);
                default:
                    return false;
            }
        }

        /** Does what an allowed command asks for. */
        void obey(int command, int first, int second, int third) {
            switch (command) {
                case DO_HARD:
                    putMoon(KIND_HARD, first, second, third);
                    break;
                case DO_SOFT:
                    putMoon(KIND_SOFT, first, second, third);
                    break;
                case DO_BUBBLE:
                    putMoon(KIND_BUBBLE, first, second, third);
                    break;
                case DO_REMOVE:
                    dropMoon(first);
                    break;
                case DO_TOE:
                    putToe(first);
                    break;
                case DO_SHAVE:
                    dropToe(first);
                    break;
                case DO_PLUG:
                    putPlug(first);
                    break;
                case DO_PULL:
                    putPlug(NONE);
                    break;
                case DO_TOWEL:
                    putTowel(first, second);
                    break;
                case DO_WRING:
                    wring(first);
                    break;
                case DO_FLOW:
                    turnTaps(first);
                    break;
                case DO_WAIT:
                    pass(first);
                    break;
                default:
                    break;
            }
        }

        // -- moons --

        int moons() {
            return cells.at(MOONS);
        }

        int putMoon(int kind, int mass, int position, int period) {
            int moon = moons();
            int first = FIRST_MOON + moon * MOON_CELLS;
            cells.put(first + KIND, kind);
            cells.put(first + MASS, mass);
            cells.put(first + START, position);
            cells.put(first + PERIOD, period);
            cells.put(first + BORN, cells.at(TIME));
            cells.put(MOONS, moon + 1);
            return moon;
        }

        int dropMoon(int moon) {
            int left = moons() - 1;
            int first = FIRST_MOON + moon * MOON_CELLS;
            cells.copy(cells, first + MOON_CELLS, first, (left - moon) * MOON_CELLS);
            cells.put(MOONS, left);
            return left;
        }

        int kindOf(int moon) {
            return cells.at(FIRST_MOON + moon * MOON_CELLS + KIND);
        }

        int periodOf(int moon) {
            return cells.at(FIRST_MOON + moon * MOON_CELLS + PERIOD);
        }

        int firstMassOf(int moon) {
            return cells.at(FIRST_MOON + moon * MOON_CELLS + MASS);
        }

        int ageNow(int moon) {
            return cells.at(TIME) - cells.at(FIRST_MOON + moon * MOON_CELLS + BORN);
        }

        int placeAfter(int moon, int minutes) {
            int age = ageNow(moon) + minutes;
            int period = periodOf(moon);
            int moves = period < 1 ? 0 : age / period;
            return (cells.at(FIRST_MOON + moon * MOON_CELLS + START) + moves) % POSITIONS;
        }

        int massAfter(int moon, int minutes) {
            int age = ageNow(moon) + minutes;
            int mass = firstMassOf(moon);
            int kind = kindOf(moon);
            if (kind == KIND_SOFT) {
                return Math.max(0, mass - age / 10);
            }
            if (kind == KIND_BUBBLE && age % 2 != 0) {
                return mass / 2;
            }
            return mass;
        }

        // -- toes and plug --

        boolean isToeAt(int position) {
            return isPosition(position) && cells.at(FIRST_TOE + position) == 1;
        }

        int toes() {
            int toes = 0;
            for (int position = 0; position < POSITIONS; position++) {
                toes += cells.at(FIRST_TOE + position);
            }
            return toes;
        }

        int putToe(int position) {
            cells.put(FIRST_TOE + position, 1);
            return toes();
        }

        int dropToe(int position) {
            cells.put(FIRST_TOE + position, 0);
            return toes();
        }

        int plug() {
            return cells.at(PLUG);
        }

        boolean isPlugged() {
            return plug() != NONE;
        }

        /** Answers where the plug was before, NONE if there was no plug. */
        int putPlug(int position) {
            int before = plug();
            cells.put(PLUG, position);
            return before;
        }

        // -- towels --

        int towels() {
            return cells.at(TOWELS);
        }

        int ofTowel(int towel, int what) {
            return cells.at(FIRST_TOWEL + towel * TOWEL_CELLS + what);
        }

        boolean isTowelAt(int position) {
            for (int towel = 0; towel < towels(); towel++) {
                if (ofTowel(towel, SHORE) == position) {
                    return true;
                }
            }
            return false;
        }

        int putTowel(int position, int height) {
            int towel = towels();
            int first = FIRST_TOWEL + towel * TOWEL_CELLS;
            cells.put(first + SHORE, position);
            cells.put(first + HEIGHT, height);
            cells.put(first + ABSORBED, 0);
            cells.put(first + FLOODS, 0);
            cells.put(TOWELS, towel + 1);
            return towel;
        }

        int dropTowel(int towel) {
            wring(towel);
            int left = towels() - 1;
            int first = FIRST_TOWEL + towel * TOWEL_CELLS;
            cells.copy(cells, first + TOWEL_CELLS, first, (left - towel) * TOWEL_CELLS);
            cells.put(TOWELS, left);
            return left;
        }

        int wring(int towel) {
            int water = ofTowel(towel, ABSORBED);
            int taken = Math.min(water, BASE_LIMIT - cells.at(BASE));
            cells.put(FIRST_TOWEL + towel * TOWEL_CELLS + ABSORBED, 0);
            cells.add(BASE, taken);
            cells.add(SPILLED, water - taken);
            return water - taken;
        }

        // -- water --

        int turnTaps(int flow) {
            int before = cells.at(FLOW);
            cells.put(FLOW, flow);
            return before;
        }

        static int distance(int one, int other) {
            int steps = Math.abs(one - other);
            return Math.min(steps, POSITIONS - steps);
        }

        boolean eclipsesAt(int place) {
            int plug = cells.at(PLUG);
            return plug != NONE && distance(place, plug) == HALF_RIM;
        }

        int tideAfter(int position, int minutes) {
            int pulls = 0;
            for (int moon = 0; moon < moons(); moon++) {
                pulls += pull(massAfter(moon, minutes), placeAfter(moon, minutes), position);
            }
            return damped(pulls, position);
        }

        int pull(int mass, int place, int position) {
            return eclipsesAt(place) ? 0 : mass * (3 - distance(place, position));
        }

        int damped(int pulls, int position) {
            return isToeAt(position) ? pulls / 2 : pulls;
        }

        int level(int position) {
            return Math.max(0, cells.at(BASE) + tideAfter(position, 0));
        }

        boolean keepsWater() {
            int water = cells.at(BASE) + cells.at(SPILLED);
            for (int towel = 0; towel < towels(); towel++) {
                water += ofTowel(towel, ABSORBED);
            }
            return BASE_AT_FIRST + cells.at(TAPPED) == water;
        }

        // -- minutes --

        int pass(int minutes) {
            int floods = 0;
            for (int minute = 0; minute < minutes; minute++) {
                cells.add(TIME, 1);
                runTaps();
                for (int towel = 0; towel < towels(); towel++) {
                    if (isFlooded(towel, tideAfter(ofTowel(towel, SHORE), 0))) {
                        soak(towel);
                        floods++;
                    }
                }
            }
            return floods;
        }

        private void runTaps() {
            if (cells.at(TIME) % 12 != 0) {
                return;
            }
            int before = cells.at(BASE);
            int after = Math.max(0, Math.min(BASE_LIMIT, before + cells.at(FLOW)));
            cells.put(BASE, after);
            cells.add(TAPPED, after - before);
        }

        private boolean isFlooded(int towel, int tide) {
            int base = cells.at(BASE);
            // no height is below 0, so the level need not be lifted to 0 before it is compared
            return base + tide > ofTowel(towel, HEIGHT) && ofTowel(towel, ABSORBED) < TOWEL_FULL && base >= 1;
        }

        private void soak(int towel) {
            int first = FIRST_TOWEL + towel * TOWEL_CELLS;
            cells.add(first + ABSORBED, 1);
            cells.add(first + FLOODS, 1);
            cells.add(BASE, -1);
        }
    }

    /** Looks ahead from a tub, which it leaves as it is. */
    private static final class Forecast {
        private final Row ages = new Row(MOON_LIMIT);
        private final Row places = new Row(MOON_LIMIT);
        private final Row masses = new Row(MOON_LIMIT);

        int steppedTide(Tub tub, int position, int minutes) {
            for (int moon = 0; moon < tub.moons(); moon++) {
                ages.put(moon, tub.ageNow(moon));
                places.put(moon, tub.placeAfter(moon, 0));
                masses.put(moon, tub.massAfter(moon, 0));
            }
            for (int minute = 0; minute < minutes; minute++) {
                for (int moon = 0; moon < tub.moons(); moon++) {
                    step(tub, moon);
                }
            }
            int pulls = 0;
            for (int moon = 0; moon < tub.moons(); moon++) {
                pulls += tub.pull(masses.at(moon), places.at(moon), position);
            }
            return tub.damped(pulls, position);
        }

        private void step(Tub tub, int moon) {
            ages.add(moon, 1);
            int age = ages.at(moon);
            int period = tub.periodOf(moon);
            if (period >= 1 && age % period == 0) {
                places.put(moon, (places.at(moon) + 1) % POSITIONS);
            }
            int kind = tub.kindOf(moon);
            if (kind == KIND_SOFT && age % 10 == 0 && masses.at(moon) > 0) {
                masses.add(moon, -1);
            }
            if (kind == KIND_BUBBLE) {
                int whole = tub.firstMassOf(moon);
                masses.put(moon, age % 2 == 0 ? whole : whole / 2);
            }
        }

        boolean agreesIn(Tub tub, int minutes) {
            for (int position = 0; position < POSITIONS; position++) {
                if (tub.tideAfter(position, minutes) != steppedTide(tub, position, minutes)) {
                    return false;
                }
            }
            return true;
        }

        static int highest(Tub tub, int position) {
            int when = 0;
            int highest = tub.tideAfter(position, 0);
            for (int minutes = 1; minutes <= TIDE_SPAN; minutes++) {
                int tide = tub.tideAfter(position, minutes);
                if (tide > highest) {
                    highest = tide;
                    when = minutes;
                }
            }
            return when;
        }

        static int lowest(Tub tub, int position) {
            int when = 0;
            int lowest = tub.tideAfter(position, 0);
            for (int minutes = 1; minutes <= TIDE_SPAN; minutes++) {
                int tide = tub.tideAfter(position, minutes);
                if (tide < lowest) {
                    lowest = tide;
                    when = minutes;
                }
            }
            return when;
        }

        /** Only to be asked while there is a plug. Every moon passes every position, so there is always an answer. */
        static int eclipse(Tub tub, int moon) {
            int moves = (tub.plug() + HALF_RIM + POSITIONS - tub.placeAfter(moon, 0)) % POSITIONS;
            if (moves == 0) {
                return 0;
            }
            return untilMove(tub, moon, 0) + (moves - 1) * tub.periodOf(moon);
        }

        /** The minutes from then, some minutes ahead, until a moon moves, at least 1. */
        private static int untilMove(Tub tub, int moon, int minutes) {
            int period = tub.periodOf(moon);
            return period < 1 ? 1 : period - (tub.ageNow(moon) + minutes) % period;
        }

        static int meetingByMinutes(Tub tub, int moon, int other) {
            for (int minutes = 0; minutes <= CONJUNCTION_SPAN; minutes++) {
                if (tub.placeAfter(moon, minutes) == tub.placeAfter(other, minutes)) {
                    return minutes;
                }
            }
            return NONE;
        }

        static int meetingByMoves(Tub tub, int moon, int other) {
            int minutes = 0;
            for (int turn = 0; turn <= CONJUNCTION_SPAN && minutes <= CONJUNCTION_SPAN; turn++) {
                if (tub.placeAfter(moon, minutes) == tub.placeAfter(other, minutes)) {
                    return minutes;
                }
                minutes += Math.min(untilMove(tub, moon, minutes), untilMove(tub, other, minutes));
            }
            return NONE;
        }
    }

    /** The states before the last modifications, in a ring. */
    private static final class History {
        private final Row kept = new Row(UNDO_LIMIT * Tub.CELLS);
        private int next = 0;
        private int size = 0;

        int size() {
            return size;
        }

        void keep(Row state) {
            kept.copy(state, 0, next * Tub.CELLS, Tub.CELLS);
            next = (next + 1) % UNDO_LIMIT;
            size = Math.min(size + 1, UNDO_LIMIT);
        }

        void takeBack(Row state) {
            if (size > 0) {
                size--;
                next = (next + UNDO_LIMIT - 1) % UNDO_LIMIT;
                state.copy(kept, next * Tub.CELLS, 0, Tub.CELLS);
            }
        }

        void forget() {
            size = 0;
        }
    }

    /** The text buffer, and the commands that were read from it. */
    private static final class Script {
        // a command has at least 4 signs, as "pull" has
        private static final int COMMAND_LIMIT = TEXT_LIMIT / 4;
        private static final int COMMAND_CELLS = 4;
        // no typed sign is below 32
        private static final char END = 0;

        private final StringBuilder text = new StringBuilder();
        private final Row commands = new Row(COMMAND_LIMIT * COMMAND_CELLS);
        private int count = 0;
        private int at = 0;
        private int number = 0;

        int length() {
            return text.length();
        }

        int append(char character) {
            text.append(character);
            return text.length();
        }

        void empty() {
            text.setLength(0);
        }

        int commands() {
            return count;
        }

        int commandAt(int index) {
            return commands.at(index * COMMAND_CELLS);
        }

        int numberAt(int index, int which) {
            return commands.at(index * COMMAND_CELLS + 1 + which);
        }

        /** After a reading that failed: where it stopped. */
        int errorPlace() {
            return at;
        }

        /** Answers whether the text is well-formed. It stops at the first sign that fits no valid text. */
        boolean read() {
            count = 0;
            at = 0;
            while (count < COMMAND_LIMIT) {
                if (!readCommand()) {
                    return false;
                }
                count++;
                if (at >= text.length()) {
                    return true;
                }
                if (signAt(at) != ';') {
                    return false;
                }
                at++;
            }
            return false;
        }

        private boolean readCommand() {
            int command = readWord();
            if (command == NONE) {
                return false;
            }
            commands.put(count * COMMAND_CELLS, command);
            for (int which = 0; which < numbersOf(command); which++) {
                if (!readNumber(command == DO_FLOW)) {
                    return false;
                }
                commands.put(count * COMMAND_CELLS + 1 + which, number);
            }
            return true;
        }

        /** No word begins with another word, so the first word that fits whole is the one. */
        private int readWord() {
            int longest = 0;
            for (int command = 0; command < COMMAND_WORDS; command++) {
                String word = wordOf(command);
                int same = sameSigns(word);
                if (same == word.length()) {
                    at += same;
                    return command;
                }
                longest = Math.max(longest, same);
            }
            at += longest;
            return NONE;
        }

        private int sameSigns(String word) {
            int same = 0;
            while (same < word.length() && signAt(at + same) == word.charAt(same)) {
                same++;
            }
            return same;
        }

        private boolean readNumber(boolean maybeNegative) {
            if (signAt(at) != ' ') {
                return false;
            }
            at++;
            boolean negative = maybeNegative && signAt(at) == '-';
            if (negative) {
                at++;
            }
            if (!isDigit(signAt(at))) {
                return false;
            }
            number = signAt(at) - '0';
            at++;
            if (negative) {
                number = -number;
            } else if (isDigit(signAt(at))) {
                number = number * 10 + signAt(at) - '0';
                at++;
            }
            return true;
        }

        private char signAt(int index) {
            return index >= 0 && index < text.length() ? text.charAt(index) : END;
        }

        private static boolean isDigit(char sign) {
            return sign >= '0' && sign <= '9';
        }

        private static String wordOf(int command) {
            switch (command) {
                case DO_HARD: return "hard";
                case DO_SOFT: return "soft";
                case DO_BUBBLE: return "bubble";
                case DO_REMOVE: return "remove";
                case DO_TOE: return "toe";
                case DO_SHAVE: return "shave";
                case DO_PLUG: return "plug";
                case DO_PULL: return "pull";
                case DO_TOWEL: return "towel";
                case DO_WRING: return "wring";
                case DO_FLOW: return "flow";
                default: return "wait";
            }
        }

        private static int numbersOf(int command) {
            switch (command) {
                case DO_HARD:
                case DO_SOFT:
                case DO_BUBBLE:
                    return 3;
                case DO_TOWEL:
                    return 2;
                case DO_PULL:
                    return 0;
                default:
                    return 1;
            }
        }
    }
}
