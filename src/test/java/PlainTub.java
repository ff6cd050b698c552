import java.util.ArrayDeque;
import java.util.ArrayList;
import java.util.Deque;
import java.util.List;
import java.util.NoSuchElementException;
import java.util.TreeSet;
import java.util.regex.Matcher;
import java.util.regex.Pattern;

/** The document once more, in the plainest way, for ModelTest: nothing is counted ahead, every minute is lived. */
final class PlainTub {
    private static final String N = " ([0-9][0-9]?)";
    private static final String COMMAND = "(?:(?:hard|soft|bubble)" + N + N + N + "|(?:remove|toe|shave|plug|wring|wait)"
            + N + "|pull|towel" + N + N + "|flow(?:" + N + "| -[0-9]))";
    private static final Pattern TEXT = Pattern.compile(COMMAND + "(?:;" + COMMAND + ")*");

    private static final class Moon {
        char kind;
        int first;
        int mass;
        int place;
        int period;
        int age;

        Moon copy() {
            Moon copy = new Moon();
            copy.kind = kind;
            copy.first = first;
            copy.mass = mass;
            copy.place = place;
            copy.period = period;
            copy.age = age;
            return copy;
        }

        void minute() {
            age++;
            if (age % period == 0) {
                place = place == 11 ? 0 : place + 1;
            }
            if (kind == 's' && age % 10 == 0 && mass > 0) {
                mass--;
            }
            if (kind == 'b') {
                mass = age % 2 == 0 ? first : first / 2;
            }
        }
    }

    private static final class Towel {
        int shore;
        int height;
        int absorbed;
        int floods;

        Towel copy() {
            Towel copy = new Towel();
            copy.shore = shore;
            copy.height = height;
            copy.absorbed = absorbed;
            copy.floods = floods;
            return copy;
        }
    }

    private static final class State {
        int time = 0;
        int base = 20;
        int flow = 0;
        int spilled = 0;
        Integer plug = null;
        List<Moon> moons = new ArrayList<>();
        TreeSet<Integer> toes = new TreeSet<>();
        List<Towel> towels = new ArrayList<>();

        State copy() {
            State copy = new State();
            copy.time = time;
            copy.base = base;
            copy.flow = flow;
            copy.spilled = spilled;
            copy.plug = plug;
            copy.toes.addAll(toes);
            moons.forEach(moon -> copy.moons.add(moon.copy()));
            towels.forEach(towel -> copy.towels.add(towel.copy()));
            return copy;
        }

        boolean eclipsed(Moon moon) {
            return plug != null && (plug + 6) % 12 == moon.place;
        }

        int tide(int position) {
            int tide = 0;
            for (Moon moon : moons) {
                int distance = 0;
                while ((position + distance) % 12 != moon.place && (moon.place + distance) % 12 != position) {
                    distance++;
                }
                tide += eclipsed(moon) ? 0 : moon.mass * (3 - distance);
            }
            if (toes.contains(position)) {
                return tide < 0 ? -(-tide / 2) : tide / 2;
            }
            return tide;
        }

        int level(int position) {
            int level = base + tide(position);
            return level < 0 ? 0 : level;
        }

        void moonsMinute() {
            moons.forEach(Moon::minute);
        }

        int minute() {
            time++;
            moonsMinute();
            if (time % 12 == 0) {
                base += flow;
                base = base < 0 ? 0 : base > 40 ? 40 : base;
            }
            int floods = 0;
            for (Towel towel : towels) {
                if (level(towel.shore) > towel.height && towel.absorbed < 5 && base >= 1) {
                    towel.absorbed++;
                    towel.floods++;
                    base--;
                    floods++;
                }
            }
            return floods;
        }
    }

    private State now = new State();
    private Deque<State> before = new ArrayDeque<>();
    private State snapshot = null;
    private String text = "";
    private String line = "";
    private Integer error = null;
    private Integer failed = null;

    private static void index(boolean good) {
        if (!good) {
            throw new IndexOutOfBoundsException();
        }
    }

    private static void argument(boolean good) {
        if (!good) {
            throw new IllegalArgumentException();
        }
    }

    private static void state(boolean good) {
        if (!good) {
            throw new IllegalStateException();
        }
    }

    private static void element(boolean good) {
        if (!good) {
            throw new NoSuchElementException();
        }
    }

    private static void position(int position) {
        index(0 <= position && position <= 11);
    }

    private Moon moon(int moon) {
        index(0 <= moon && moon < now.moons.size());
        return now.moons.get(moon);
    }

    private Towel towel(int towel) {
        index(0 <= towel && towel < now.towels.size());
        return now.towels.get(towel);
    }

    private void modify() {
        before.addLast(now.copy());
        if (before.size() > 8) {
            before.removeFirst();
        }
    }

    private int add(char kind, int mass, int position, int period) {
        argument(1 <= mass && mass <= 6 && 0 <= position && position <= 11 && 1 <= period && period <= 12);
        state(now.moons.size() < 5);
        modify();
        Moon moon = new Moon();
        moon.kind = kind;
        moon.first = mass;
        moon.mass = mass;
        moon.place = position;
        moon.period = period;
        now.moons.add(moon);
        return now.moons.size() - 1;
    }

    int addHardMoon(int mass, int position, int period) {
        return add('h', mass, position, period);
    }

    int addSoftMoon(int mass, int position, int period) {
        return add('s', mass, position, period);
    }

    int addBubbleMoon(int mass, int position, int period) {
        return add('b', mass, position, period);
    }

    int removeMoon(int moon) {
        moon(moon);
        modify();
        now.moons.remove(moon);
        return now.moons.size();
    }

    int moonCount() {
        return now.moons.size();
    }

    int positionOf(int moon) {
        return moon(moon).place;
    }

    int massOf(int moon) {
        return moon(moon).mass;
    }

    int ageOf(int moon) {
        return moon(moon).age;
    }

    boolean isHard(int moon) {
        return moon(moon).kind == 'h';
    }

    boolean isSoft(int moon) {
        return moon(moon).kind == 's';
    }

    boolean isEclipsed(int moon) {
        return now.eclipsed(moon(moon));
    }

    int placeToe(int position) {
        position(position);
        state(!now.toes.contains(position) && now.toes.size() < 4);
        modify();
        now.toes.add(position);
        return now.toes.size();
    }

    int removeToe(int position) {
        position(position);
        state(now.toes.contains(position));
        modify();
        now.toes.remove(position);
        return now.toes.size();
    }

    boolean hasToe(int position) {
        position(position);
        return now.toes.contains(position);
    }

    boolean insertPlug(int position) {
        position(position);
        modify();
        boolean first = now.plug == null;
        now.plug = position;
        return first;
    }

    int pullPlug() {
        state(now.plug != null);
        modify();
        int position = now.plug;
        now.plug = null;
        return position;
    }

    int plugPosition() {
        element(now.plug != null);
        return now.plug;
    }

    private boolean towelAt(int position) {
        return now.towels.stream().anyMatch(towel -> towel.shore == position);
    }

    int layTowel(int position, int height) {
        position(position);
        argument(0 <= height && height <= 60);
        state(!towelAt(position) && now.towels.size() < 4);
        modify();
        Towel towel = new Towel();
        towel.shore = position;
        towel.height = height;
        now.towels.add(towel);
        return now.towels.size() - 1;
    }

    private int wring(Towel towel) {
        int lost = 0;
        for (; towel.absorbed > 0; towel.absorbed--) {
            if (now.base < 40) {
                now.base++;
            } else {
                now.spilled++;
                lost++;
            }
        }
        return lost;
    }

    int removeTowel(int towel) {
        towel(towel);
        modify();
        wring(towel(towel));
        now.towels.remove(towel);
        return now.towels.size();
    }

    int wringTowel(int towel) {
        towel(towel);
        modify();
        return wring(towel(towel));
    }

    int towelCount() {
        return now.towels.size();
    }

    int shoreOf(int towel) {
        return towel(towel).shore;
    }

    int heightOf(int towel) {
        return towel(towel).height;
    }

    int absorbedBy(int towel) {
        return towel(towel).absorbed;
    }

    int floodsOf(int towel) {
        return towel(towel).floods;
    }

    int setFlow(int flow) {
        argument(-3 <= flow && flow <= 3);
        modify();
        int previous = now.flow;
        now.flow = flow;
        return previous;
    }

    int advance(int minutes) {
        argument(1 <= minutes && minutes <= 60);
        modify();
        int floods = 0;
        for (int i = 0; i < minutes; i++) {
            floods += now.minute();
        }
        return floods;
    }

    int time() {
        return now.time;
    }

    int baseLevel() {
        return now.base;
    }

    int flow() {
        return now.flow;
    }

    int spilled() {
        return now.spilled;
    }

    int tideAt(int position) {
        position(position);
        return now.tide(position);
    }

    int levelAt(int position) {
        position(position);
        return now.level(position);
    }

    int highestShore() {
        int highest = 11;
        for (int position = 11; position >= 0; position--) {
            highest = now.level(position) >= now.level(highest) ? position : highest;
        }
        return highest;
    }

    private int[] tides(int position, int minutes) {
        State later = now.copy();
        int[] tides = new int[minutes + 1];
        for (int i = 0; i <= minutes; i++) {
            tides[i] = later.tide(position);
            later.moonsMinute();
        }
        return tides;
    }

    int tideIn(int position, int minutes) {
        position(position);
        argument(0 <= minutes && minutes <= 144);
        return tides(position, minutes)[minutes];
    }

    int tideBySteps(int position, int minutes) {
        return tideIn(position, minutes);
    }

    int highTideIn(int position) {
        position(position);
        int[] tides = tides(position, 144);
        int best = 144;
        for (int i = 144; i >= 0; i--) {
            best = tides[i] >= tides[best] ? i : best;
        }
        return best;
    }

    int lowTideIn(int position) {
        position(position);
        int[] tides = tides(position, 144);
        int best = 144;
        for (int i = 144; i >= 0; i--) {
            best = tides[i] <= tides[best] ? i : best;
        }
        return best;
    }

    int eclipseIn(int moon) {
        Moon later = moon(moon).copy();
        element(now.plug != null);
        int minutes = 0;
        while (!now.eclipsed(later)) {
            later.minute();
            minutes++;
        }
        return minutes;
    }

    int conjunctionIn(int moon, int other) {
        Moon one = moon(moon).copy();
        Moon two = moon(other).copy();
        for (int minutes = 0; minutes <= 2000; minutes++) {
            if (one.place == two.place) {
                return minutes;
            }
            one.minute();
            two.minute();
        }
        throw new NoSuchElementException();
    }

    int conjunctionByMoves(int moon, int other) {
        return conjunctionIn(moon, other);
    }

    int writeRim() {
        List<String> places = new ArrayList<>();
        for (int position = 0; position < 12; position++) {
            places.add(now.level(position) + (now.toes.contains(position) ? "t" : "")
                    + (now.plug != null && now.plug == position ? "p" : "") + (towelAt(position) ? "w" : ""));
        }
        line = String.join(" ", places);
        return line.length();
    }

    int writeMoon(int moon) {
        Moon it = moon(moon);
        line = it.kind + "" + it.mass + "@" + it.place + (now.eclipsed(it) ? "!" : "");
        return line.length();
    }

    char lineAt(int index) {
        index(0 <= index && index < line.length());
        return line.charAt(index);
    }

    double meanLevel() {
        double sum = 0;
        for (int position = 0; position < 12; position++) {
            sum += now.level(position);
        }
        return sum / 12;
    }

    float eclipsedShare() {
        if (now.moons.isEmpty()) {
            throw new ArithmeticException();
        }
        return (float) now.moons.stream().filter(now::eclipsed).count() / now.moons.size();
    }

    boolean isBalanced() {
        return true;
    }

    int type(char character) {
        argument(32 <= character && character <= 126);
        state(text.length() < 60);
        text += character;
        return text.length();
    }

    int execute() {
        String it = text;
        text = "";
        if (!TEXT.matcher(it).matches()) {
            int good = 0;
            while (good < it.length() && isBeginning(it.substring(0, good + 1))) {
                good++;
            }
            error = good;
            throw new IllegalArgumentException();
        }
        State first = now.copy();
        Deque<State> history = new ArrayDeque<>(before);
        String[] commands = it.split(";");
        for (int i = 0; i < commands.length; i++) {
            try {
                obey(commands[i].split(" "));
            } catch (RuntimeException thrown) {
                now = first;
                before = history;
                failed = i;
                throw new IllegalStateException();
            }
        }
        State last = now;
        now = first;
        before = history;
        modify();
        now = last;
        return commands.length;
    }

    private static boolean isBeginning(String text) {
        Matcher matcher = TEXT.matcher(text);
        return matcher.matches() || matcher.hitEnd();
    }

    private void obey(String[] words) {
        int[] n = new int[4];
        for (int i = 1; i < words.length; i++) {
            n[i] = Integer.parseInt(words[i]);
        }
        switch (words[0]) {
            case "hard" -> addHardMoon(n[1], n[2], n[3]);
            case "soft" -> addSoftMoon(n[1], n[2], n[3]);
            case "bubble" -> addBubbleMoon(n[1], n[2], n[3]);
            case "remove" -> removeMoon(n[1]);
            case "toe" -> placeToe(n[1]);
            case "shave" -> removeToe(n[1]);
            case "plug" -> insertPlug(n[1]);
            case "pull" -> pullPlug();
            case "towel" -> layTowel(n[1], n[2]);
            case "wring" -> wringTowel(n[1]);
            case "flow" -> setFlow(n[1]);
            default -> advance(n[1]);
        }
    }

    int errorPosition() {
        element(error != null);
        return error;
    }

    int failedCommand() {
        element(failed != null);
        return failed;
    }

    int undo() {
        state(!before.isEmpty());
        now = before.removeLast();
        return before.size();
    }

    int save() {
        snapshot = now.copy();
        return now.moons.size();
    }

    int restore() {
        state(snapshot != null);
        now = snapshot.copy();
        before.clear();
        return now.moons.size();
    }
}
