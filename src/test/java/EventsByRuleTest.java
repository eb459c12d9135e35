import java.math.BigInteger;
import java.util.ArrayList;
import java.util.Collections;
import java.util.List;
import java.util.Random;
import java.util.function.ToLongFunction;

/** Parts II and III, reckoned anew for random texts: the first fault that is due, or all events as they come to be. */
public final class EventsByRuleTest {
    private static final Checks CHECKS = new Checks();
    private static final int[] NATURALS = {0, 2, 4, 5, 7, 9, 11};
    private static final String[] LOUDS = {"ppp", "pp", "p", "mp", "mf", "f", "ff", "fff"};
    private static final String MARKS = "~()'^-%";

    public static void main(String[] args) {
        int[] told = new int[16];
        for (int seed = 0; seed < 6000; seed++) {
            EventsByRuleTest test = new EventsByRuleTest(new Random(seed));
            told[test.compare()]++;
        }
        for (int fault : new int[] {0, 7, 9, 10, 11, 12, 13, 15}) {
            CHECKS.due("some texts have the fault " + fault + " (" + told[fault] + ")", told[fault] >= 10 ? 1 : 0, 1);
        }
        CHECKS.finish();
    }

    /** A fraction in lowest terms. */
    private record Part(BigInteger above, BigInteger below) {
        static Part of(long above, long below) {
            return new Part(BigInteger.valueOf(above), BigInteger.valueOf(below)).lowest();
        }

        Part lowest() {
            BigInteger common = above.gcd(below);
            return new Part(above.divide(common), below.divide(common));
        }

        Part times(Part other) {
            return new Part(above.multiply(other.above), below.multiply(other.below)).lowest();
        }

        Part plus(Part other) {
            return new Part(above.multiply(other.below).add(other.above.multiply(below)), below.multiply(other.below)).lowest();
        }

        int compare(Part other) {
            return above.multiply(other.below).compareTo(other.above.multiply(below));
        }

        boolean isMultipleOf(Part other) {
            return above.multiply(other.below).mod(other.above.multiply(below)).signum() == 0;
        }

        /** In which of the parts that are so long it lies. */
        BigInteger floor(Part other) {
            return above.multiply(other.below).divide(other.above.multiply(below));
        }
    }

    /** An item as it is told. */
    private static final class Item {
        String kind;
        int place;
        Part value;
        int marks;
        int loud;
        int first;
        int second;
        List<int[]> pitches = new ArrayList<>();
        List<Integer> pitchPlaces = new ArrayList<>();
        List<List<Item>> musics = new ArrayList<>();
        int let;
    }

    private static final class Event {
        Part place;
        Part length;
        int marks;
        int loud;
        int token;
        int bracket;
        int bracketPlace;
        List<int[]> pitches = new ArrayList<>();
    }

    private static final class Fault extends RuntimeException {
        final int told;

        Fault(int sort, int place) {
            super(null, null, false, false);
            told = sort + 16 * place;
        }
    }

    private final Random random;
    private final StringBuilder text = new StringBuilder();
    private final List<List<Item>> lets = new ArrayList<>();
    private final Part bar;
    private Part nearest;
    private List<Event> events;
    private int loud;
    private Part come;
    private int backs;
    private int brackets;
    private int bracketCount;
    private int bracketPlace;
    private final List<Item> around = new ArrayList<>();

    private EventsByRuleTest(Random random) {
        this.random = random;
        int above = 1 + random.nextInt(6);
        int below = 2 << random.nextInt(3);
        bar = Part.of(above, below);
        text.append("time ").append(above).append('/').append(below).append(' ');
    }

    private int compare() {
        for (int n = random.nextInt(3); n > 0; n--) {
            text.append("let ").append((char) ('j' + lets.size())).append(" = {");
            nearest = Part.of(1, 4);
            lets.add(music(1));
            text.append("} ");
        }
        int place = text.length();
        text.append("voice v treble 0 {");
        nearest = Part.of(1, 4);
        List<Item> music = music(0);
        text.append("}");
        int want = 0;
        try {
            goVoice(music, place);
        } catch (Fault fault) {
            want = fault.told;
        }
        Script script = new Script().piece(0, text.toString());
        CHECKS.due("read of " + text, new Script().text(text.toString()).ask(house -> house.read(0)), want);
        if (want == 0) {
            dueEvents(script);
        }
        return want % 16;
    }

    private void dueEvents(Script script) {
        CHECKS.due("events of " + text, script.ask(house -> house.voice(0, 0, 2)), events.size());
        List<ToLongFunction<StaveHouse>> questions = new ArrayList<>();
        List<Long> want = new ArrayList<>();
        for (int n = 0; n < events.size(); n++) {
            int i = n;
            Event event = events.get(i);
            long[] row = {event.place.above.longValue(), event.place.below.longValue(), event.length.above.longValue(), event.length.below.longValue(), event.pitches.size(), event.marks,
                event.loud, event.token};
            for (int w = 0; w < 8; w++) {
                int what = w;
                questions.add(house -> house.event(0, 0, i, what));
                want.add(row[w]);
            }
            event.pitches.sort((a, b) -> a[0] - b[0]);
            for (int p = 0; p < event.pitches.size(); p++) {
                int k = p;
                questions.add(house -> house.pitch(0, 0, i, k, 0));
                want.add((long) event.pitches.get(k)[0]);
                questions.add(house -> house.pitch(0, 0, i, k, 2));
                want.add((long) event.pitches.get(k)[1]);
            }
        }
        CHECKS.dueSame("events of " + text, script.ask(questions), want.stream().mapToLong(n -> n).toArray());
    }

    private List<Item> music(int depth) {
        List<Item> items = new ArrayList<>();
        for (int n = 1 + random.nextInt(4); n > 0; n--) {
            items.add(item(depth));
        }
        return items;
    }

    private Item item(int depth) {
        Item item = new Item();
        item.place = text.length();
        int sort = random.nextInt(depth < 4 ? 26 : 16);
        if (sort < 11) {
            tellEvent(item, 1);
        } else if (sort < 13) {
            tellEvent(item, 2 + random.nextInt(2));
        } else if (sort == 13) {
            tellEvent(item, 0);
        } else if (sort == 14) {
            item.kind = "!";
            item.loud = random.nextInt(8);
            text.append("! ").append(LOUDS[item.loud]).append(' ');
        } else if (sort == 15) {
            item.kind = random.nextInt(4) == 0 ? "|" : lets.isEmpty() ? "empty" : "use";
            tellShort(item);
        } else {
            tellLong(item, sort - 16, depth);
        }
        return item;
    }

    private void tellShort(Item item) {
        if (item.kind.equals("|")) {
            text.append("| ");
        } else if (item.kind.equals("use")) {
            item.let = random.nextInt(lets.size());
            text.append("use ").append((char) ('j' + item.let)).append(' ');
        } else {
            item.kind = "back";
            text.append("back{} ");
            item.musics.add(new ArrayList<>());
        }
    }

    private void tellPitch(Item item) {
        int step = random.nextInt(12) == 0 ? random.nextInt(63) : 24 + random.nextInt(5);
        int alteration = random.nextInt(3) == 0 ? random.nextInt(5) - 2 : 0;
        item.pitchPlaces.add(text.length());
        text.append("cdefgab".charAt(step % 7)).append(new String[] {"bb", "b", "", "#", "##"}[alteration + 2]).append(step / 7);
        item.pitches.add(new int[] {step, 12 * (step / 7 + 1) + NATURALS[step % 7] + alteration});
    }

    private void tellEvent(Item item, int pitches) {
        item.kind = "event";
        text.append(pitches == 0 ? "r" : pitches > 1 ? "<" : "");
        for (int n = 0; n < pitches; n++) {
            text.append(n > 0 ? " " : "");
            tellPitch(item);
        }
        text.append(pitches > 1 ? ">" : "");
        if (random.nextInt(3) == 0) {
            int number = 1 << 1 + random.nextInt(5);
            int points = random.nextInt(8) == 0 ? 1 + random.nextInt(2) : 0;
            text.append(':').append(number).append(".".repeat(points));
            nearest = Part.of(new int[] {1, 3, 7}[points], (long) number << points);
        }
        item.value = nearest;
        int likely = random.nextInt(8);
        for (int n = 0; n < 7 && pitches > 0 && likely < 2; n++) {
            if (random.nextInt(6) == 0) {
                item.marks |= 1 << n;
                text.append(MARKS.charAt(n));
            }
        }
        text.append(' ');
    }

    private void tellLong(Item item, int sort, int depth) {
        item.kind = new String[] {"[", "[", "repeat", "repeat", "move", "mirror", "back", "back", "slow", "slow"}[sort];
        switch (item.kind) {
            case "[":
                item.first = 2 + random.nextInt(8);
                item.second = 1 + random.nextInt(9);
                boolean plain = random.nextInt(4) > 0;
                item.first = plain ? 3 : item.first;
                item.second = plain ? 2 : item.second;
                text.append('[').append(item.first).append('/').append(item.second).append(": ");
                if (plain) {
                    item.musics.add(three());
                } else {
                    item.musics.add(music(depth + 1));
                }
                text.append("] ");
                return;
            case "repeat":
                item.first = 2 + random.nextInt(3);
                text.append("repeat ").append(item.first);
                break;
            case "slow":
                item.first = 1 + random.nextInt(4);
                item.second = 1 + random.nextInt(2);
                text.append("slow ").append(item.first).append('/').append(item.second);
                break;
            case "move":
                text.append("move ");
                tellPitch(item);
                text.append(' ');
                tellPitch(item);
                break;
            case "mirror":
                text.append("mirror ");
                tellPitch(item);
                break;
            default:
                text.append("back");
                break;
        }
        tellBlock(item, depth);
        if (item.kind.equals("repeat") && random.nextInt(2) == 0) {
            text.append("alt ");
            for (int n = 1 + random.nextInt(3); n > 0; n--) {
                tellBlock(item, depth);
            }
        }
    }

    /** Three events of one length, so that a bracket of 3 has what it wants. */
    private List<Item> three() {
        List<Item> items = new ArrayList<>();
        for (int n = 0; n < 3; n++) {
            Item item = new Item();
            item.place = text.length();
            item.kind = "event";
            tellPitch(item);
            text.append(n == 0 ? ":8 " : " ");
            nearest = Part.of(1, 8);
            item.value = nearest;
            items.add(item);
        }
        return items;
    }

    private void tellBlock(Item item, int depth) {
        text.append('{');
        item.musics.add(music(depth + 1));
        text.append("} ");
    }

    private void goVoice(List<Item> music, int place) {
        events = new ArrayList<>();
        loud = 4;
        come = Part.of(0, 1);
        go(music);
        if (events.isEmpty()) {
            throw new Fault(15, place);
        }
        Part at = Part.of(0, 1);
        for (Event event : events) {
            event.place = at;
            at = at.plus(event.length);
        }
        boolean open = false;
        for (int i = 0; i < events.size(); i++) {
            Event event = events.get(i);
            judgeBracket(i);
            if ((event.marks & 1) != 0 && !ties(event, i + 1 < events.size() ? events.get(i + 1) : null)) {
                throw new Fault(10, event.token);
            }
            if ((event.marks & 4) != 0) {
                if (!open) {
                    throw new Fault(11, event.token);
                }
                open = false;
            }
            if ((event.marks & 2) != 0) {
                if (open) {
                    throw new Fault(11, event.token);
                }
                open = true;
            }
        }
        if (open) {
            throw new Fault(11, place);
        }
    }

    private static boolean ties(Event event, Event next) {
        if (next == null) {
            return false;
        }
        for (int[] one : event.pitches) {
            for (int[] other : next.pitches) {
                if (one[0] == other[0] && one[1] == other[1]) {
                    return true;
                }
            }
        }
        return false;
    }

    private void judgeBracket(int i) {
        int bracket = events.get(i).bracket;
        if (bracket == 0 || i > 0 && events.get(i - 1).bracket == bracket) {
            return;
        }
        Part from = events.get(i).place;
        Part sum = Part.of(0, 1);
        boolean oneBar = true;
        for (int j = i; j < events.size() && events.get(j).bracket == bracket; j++) {
            Event event = events.get(j);
            sum = sum.plus(event.length);
            Part barEnd = Part.of(from.floor(bar).longValue() + 1, 1).times(bar);
            oneBar &= event.place.plus(event.length).compare(barEnd) <= 0;
        }
        if (!oneBar || !sum.isMultipleOf(Part.of(1, 128))) {
            throw new Fault(13, events.get(i).bracketPlace);
        }
    }

    private void go(List<Item> music) {
        for (Item item : music) {
            goItem(item);
        }
    }

    private void goItem(Item item) {
        switch (item.kind) {
            case "event":
                make(item);
                break;
            case "!":
                loud = item.loud;
                break;
            case "|":
                if (backs == 0 && !come.isMultipleOf(bar)) {
                    throw new Fault(7, item.place);
                }
                break;
            case "use":
                go(lets.get(item.let));
                break;
            case "[":
                goBracket(item);
                break;
            case "repeat":
                for (int k = 0; k < item.first; k++) {
                    go(item.musics.get(0));
                    if (item.musics.size() > 1) {
                        go(item.musics.get(Math.min(k + 1, item.musics.size() - 1)));
                    }
                }
                break;
            case "back":
                goBack(item);
                break;
            default:
                around.add(item);
                go(item.musics.get(0));
                around.remove(around.size() - 1);
                break;
        }
    }

    private void goBracket(Item item) {
        if (brackets == 0) {
            bracketCount++;
            bracketPlace = item.place;
        }
        brackets++;
        around.add(item);
        go(item.musics.get(0));
        around.remove(around.size() - 1);
        brackets--;
    }

    private void goBack(Item item) {
        int from = events.size();
        backs++;
        go(item.musics.get(0));
        backs--;
        List<Event> turned = events.subList(from, events.size());
        Collections.reverse(turned);
        for (int i = 0; i < turned.size(); i++) {
            Event event = turned.get(i);
            int marks = event.marks & ~7;
            marks |= (event.marks & 2) != 0 ? 4 : 0;
            marks |= (event.marks & 4) != 0 ? 2 : 0;
            marks |= i + 1 < turned.size() ? turned.get(i + 1).marks & 1 : 0;
            event.marks = marks;
        }
    }

    private void make(Item item) {
        Part slowed = item.value;
        Part length = item.value;
        for (Item one : around) {
            if (one.kind.equals("slow")) {
                slowed = slowed.times(Part.of(one.first, one.second));
                length = length.times(Part.of(one.first, one.second));
            } else if (one.kind.equals("[")) {
                length = length.times(Part.of(one.second, one.first));
            }
        }
        if (!slowed.isMultipleOf(Part.of(1, 128)) || slowed.compare(Part.of(8, 1)) > 0 || brackets > 2) {
            throw new Fault(12, item.place);
        }
        if (events.size() == 200 || come.plus(length).compare(bar.times(Part.of(100, 1))) > 0) {
            throw new Fault(8, item.place);
        }
        Event event = new Event();
        event.length = length;
        event.marks = item.marks;
        event.loud = loud;
        event.token = item.place;
        event.bracket = brackets == 0 ? 0 : bracketCount;
        event.bracketPlace = bracketPlace;
        for (int k = 0; k < item.pitches.size(); k++) {
            event.pitches.add(carried(item.pitches.get(k), item.pitchPlaces.get(k), event));
        }
        events.add(event);
        come = come.plus(length);
    }

    private int[] carried(int[] pitch, int place, Event event) {
        int step = pitch[0];
        int tone = pitch[1];
        for (int n = around.size() - 1; n >= 0; n--) {
            Item one = around.get(n);
            if (one.kind.equals("move")) {
                step += one.pitches.get(1)[0] - one.pitches.get(0)[0];
                tone += one.pitches.get(1)[1] - one.pitches.get(0)[1];
            } else if (one.kind.equals("mirror")) {
                step = 2 * one.pitches.get(0)[0] - step;
                tone = 2 * one.pitches.get(0)[1] - tone;
            }
            if (step < 0 || step > 62 || Math.abs(tone - 12 * (step / 7 + 1) - NATURALS[step % 7]) > 2) {
                throw new Fault(9, place);
            }
        }
        for (int[] other : event.pitches) {
            if (other[0] == step) {
                throw new Fault(9, place);
            }
        }
        return new int[] {step, tone};
    }
}
