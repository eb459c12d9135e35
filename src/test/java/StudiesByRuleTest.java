import java.util.ArrayList;
import java.util.Arrays;
import java.util.List;
import java.util.Random;
import java.util.function.ToLongFunction;

/** Part VIII, reckoned anew from the events of random pieces: moments, faults between parts, following, shapes. */
public final class StudiesByRuleTest {
    private static final Checks CHECKS = new Checks();
    private static final int WHOLE = 128 * 9 * 5 * 7;

    public static void main(String[] args) {
        Random random = new Random(5);
        for (int n = 0; n < 120; n++) {
            onePiece(random, 1 + random.nextInt(4));
        }
        for (int n = 0; n < 60; n++) {
            canon(random);
        }
        CHECKS.finish();
    }

    /** An event: where it begins and ends, and its line; a step below 0: a rest. */
    private static final class Told {
        int place;
        int length;
        int step = -1;
        int tone = -1;
    }

    private static String music(Random random, int left) {
        int[] values = {4, 8, 12, 16, 16, 32, 32};
        String[] told = {":32", ":16", ":16.", ":8", ":8", ":4", ":4"};
        StringBuilder text = new StringBuilder();
        int rest = left;
        while (rest > 0) {
            int n = random.nextInt(values.length);
            if (values[n] > rest) {
                n = 0;
            }
            rest -= values[n];
            String pitch = random.nextInt(6) == 0 ? "r" : pitch(random, 4);
            if (!pitch.equals("r") && random.nextInt(5) == 0) {
                pitch = "<" + pitch(random, 4) + " " + pitch(random, 5) + " " + pitch(random, 3) + ">";
            }
            text.append(pitch).append(told[n]).append(' ');
        }
        return text.toString();
    }

    private static String pitch(Random random, int octave) {
        return "cdefgab".charAt(random.nextInt(7)) + new String[] {"", "", "", "", "#", "b", "##"}[random.nextInt(7)] + octave;
    }

    private static void onePiece(Random random, int voices) {
        int left = 4 * (8 + random.nextInt(60));
        StringBuilder text = new StringBuilder();
        for (int v = 0; v < voices; v++) {
            text.append("voice ").append((char) ('s' + v)).append(" alto 0 {").append(music(random, left)).append("} ");
        }
        if (text.length() < 3000) {
            dueAll(random, text.toString(), voices);
        }
    }

    /** A voice, and others that follow it for a while, at other steps. */
    private static void canon(Random random) {
        int notes = 3 + random.nextInt(8);
        int[] steps = new int[notes];
        String[] lengths = new String[notes];
        for (int n = 0; n < notes; n++) {
            steps[n] = random.nextInt(5) == 0 ? -1 : 24 + random.nextInt(10);
            lengths[n] = new String[] {":8", ":4", ":16"}[random.nextInt(3)];
        }
        int apart = random.nextInt(9) - 4;
        StringBuilder one = new StringBuilder("voice s treble 0 {");
        StringBuilder other = new StringBuilder("voice t bass 0 {r:2 ");
        int differs = random.nextInt(notes + 3);
        for (int n = 0; n < notes; n++) {
            one.append(told(steps[n])).append(lengths[n]).append(' ');
            other.append(steps[n] < 0 ? "r" : told(steps[n] + apart + (n == differs ? 1 : 0))).append(lengths[n]).append(' ');
        }
        dueAll(random, one + "r:2} " + other + "}", 2);
    }

    private static String told(int step) {
        return step < 0 ? "r" : "cdefgab".charAt(step % 7) + String.valueOf(step / 7);
    }

    private static void dueAll(Random random, String text, int voices) {
        Script script = new Script().piece(0, text);
        CHECKS.due("read " + text, script.ask(house -> house.look(0, 0)), voices);
        List<List<Told>> parts = new ArrayList<>();
        for (int v = 0; v < voices; v++) {
            parts.add(eventsOf(script, v));
        }
        int[] moments = parts.stream().flatMap(List::stream).mapToInt(event -> event.place).distinct().sorted().toArray();
        CHECKS.due("moments of " + text, script.ask(house -> house.look(0, 7)), moments.length);
        dueFaults(script, text, parts, moments);
        dueFollows(script, text, parts);
        dueShapes(script, random, text, parts);
    }

    private static List<Told> eventsOf(Script script, int v) {
        List<ToLongFunction<StaveHouse>> questions = new ArrayList<>();
        long count = script.ask(house -> house.voice(0, v, 2));
        for (int n = 0; n < 16 * count; n++) {
            int i = n / 16;
            int at = n % 16;
            questions.add(house -> at < 4 ? house.event(0, v, i, at) : house.pitch(0, v, i, (at - 4) / 2, at % 2 * 2));
        }
        long[] got = script.ask(questions);
        List<Told> events = new ArrayList<>();
        for (int from = 0; from < got.length; from += 16) {
            Told event = new Told();
            event.place = (int) (got[from] * WHOLE / got[from + 1]);
            event.length = (int) (got[from + 2] * WHOLE / got[from + 3]);
            for (int k = 0; k < 6 && got[from + 4 + 2 * k] != Integer.MIN_VALUE; k++) {
                int step = (int) got[from + 4 + 2 * k];
                int tone = (int) got[from + 5 + 2 * k];
                if (tone > event.tone || tone == event.tone && step > event.step) {
                    event.step = step;
                    event.tone = tone;
                }
            }
            events.add(event);
        }
        return events;
    }

    private static Told at(List<Told> part, int moment) {
        for (Told event : part) {
            if (event.place <= moment && moment < event.place + event.length) {
                return event;
            }
        }
        return null;
    }

    private static void dueFaults(Script script, String text, List<List<Told>> parts, int[] moments) {
        List<int[]> want = new ArrayList<>();
        int voices = parts.size();
        for (int m = 1; m < moments.length; m++) {
            for (int kind = 1; kind <= 6; kind++) {
                for (int u = 0; u < voices; u++) {
                    for (int v = kind <= 4 ? u + 1 : u; v < (kind <= 4 ? voices : u + 1); v++) {
                        Told[] now = {at(parts.get(u), moments[m]), at(parts.get(v), moments[m])};
                        Told[] old = {at(parts.get(u), moments[m - 1]), at(parts.get(v), moments[m - 1])};
                        if (isFault(kind, now, old, moments[m])) {
                            want.add(new int[] {m, kind, u, kind <= 4 ? v : -1});
                        }
                    }
                }
            }
        }
        int count = Math.min(300, want.size());
        CHECKS.due("faults of " + text, script.ask(house -> house.look(0, 8)), count);
        List<ToLongFunction<StaveHouse>> questions = new ArrayList<>();
        for (int n = 0; n < 4 * count; n++) {
            int at = n;
            questions.add(house -> house.fault(0, at / 4, at % 4));
        }
        long[] got = script.ask(questions);
        for (int n = 0; n < got.length; n++) {
            CHECKS.due("fault " + n / 4 + ", " + n % 4 + " of " + text, got[n], want.get(n / 4)[n % 4]);
        }
    }

    private static boolean isFault(int kind, Told[] now, Told[] old, int moment) {
        boolean linesNow = now[0].step >= 0 && now[1].step >= 0;
        boolean linesOld = old[0].step >= 0 && old[1].step >= 0;
        boolean begin = now[0].place == moment && now[1].place == moment;
        int[] gone = {now[0].tone - old[0].tone, now[1].tone - old[1].tone};
        if (kind == 4) {
            return linesNow && now[1].tone > now[0].tone && (!linesOld || old[1].tone <= old[0].tone);
        }
        if (!linesNow || !linesOld || !begin) {
            return false;
        }
        int steps = Math.abs(now[0].step - old[0].step);
        if (kind == 5) {
            return steps > 7;
        }
        if (kind == 6) {
            return isOdd(now[0], old[0]);
        }
        if (!(gone[0] > 0 && gone[1] > 0 || gone[0] < 0 && gone[1] < 0)) {
            return false;
        }
        String later = between(now);
        String earlier = between(old);
        if (kind == 1) {
            return later.equals("0 0") && earlier.equals("0 0");
        }
        if (kind == 2) {
            return later.equals("4 7") && earlier.equals("4 7");
        }
        int higher = now[1].tone > now[0].tone ? 1 : 0;
        return (later.equals("0 0") || later.equals("4 7")) && !later.equals(earlier) && Math.abs(now[higher].step - old[higher].step) > 2;
    }

    private static String between(Told[] both) {
        Told high = both[1].tone > both[0].tone ? both[1] : both[0];
        Told low = high == both[0] ? both[1] : both[0];
        return Math.floorMod(high.step - low.step, 7) + " " + Math.floorMod(high.tone - low.tone, 12);
    }

    private static boolean isOdd(Told now, Told old) {
        int s = Math.abs(now.step - old.step);
        int tones = now.step > old.step ? now.tone - old.tone : now.step < old.step ? old.tone - now.tone : Math.abs(now.tone - old.tone);
        int[][] meant = {{0}, {1, 2}, {3, 4}, {5}, {7}, {8, 9}, {10, 11}};
        return Arrays.stream(meant[s % 7]).noneMatch(n -> n == Math.floorMod(tones, 12));
    }

    private static void dueFollows(Script script, String text, List<List<Told>> parts) {
        for (int u = 0; u < parts.size(); u++) {
            for (int v = 0; v < parts.size(); v++) {
                if (u == v) {
                    continue;
                }
                int one = u;
                int other = v;
                long[] want = follows(parts.get(u), parts.get(v));
                long[] got = new long[4];
                for (int n = 0; n < 4; n++) {
                    int what = n;
                    got[n] = script.ask(house -> house.follows(0, one, other, what));
                }
                CHECKS.due("for how many in " + text, got[0], want[0]);
                CHECKS.due("by how many steps in " + text, got[1], want[1]);
                CHECKS.due("by which place in " + text, got[2] * WHOLE, want[2] * got[3]);
            }
        }
    }

    private static int first(List<Told> part) {
        int i = 0;
        while (i < part.size() && part.get(i).step < 0) {
            i++;
        }
        return i;
    }

    private static long[] follows(List<Told> ahead, List<Told> behind) {
        int i = first(ahead);
        int j = first(behind);
        if (i == ahead.size() || j == behind.size() || behind.get(j).place <= ahead.get(i).place) {
            return new long[3];
        }
        int k = 0;
        int apart = behind.get(j).step - ahead.get(i).step;
        while (i + k < ahead.size() && j + k < behind.size()) {
            Told one = ahead.get(i + k);
            Told other = behind.get(j + k);
            boolean rests = one.step < 0 && other.step < 0;
            boolean none = one.step >= 0 && other.step >= 0 && other.step - one.step == apart;
            if (one.length != other.length || !rests && !none) {
                break;
            }
            k++;
        }
        return k == 0 ? new long[3] : new long[] {k, apart, behind.get(j).place - ahead.get(i).place};
    }

    private static void dueShapes(Script script, Random random, String text, List<List<Told>> parts) {
        for (int n = 0; n < 16; n++) {
            int v = random.nextInt(parts.size());
            int w = random.nextInt(parts.size());
            int kind = n % 8;
            int events = 2 + random.nextInt(3);
            if (parts.get(v).size() < events) {
                continue;
            }
            int i = random.nextInt(parts.get(v).size() - events + 1);
            List<Integer> found = new ArrayList<>();
            for (int j = 0; j + events <= parts.get(w).size(); j++) {
                if (isShape(parts.get(v).subList(i, i + events), parts.get(w).subList(j, j + events), kind)) {
                    found.add(j);
                }
            }
            int size = found.size();
            for (int m = 0; m <= size; m++) {
                int k = m;
                long got = script.ask(house -> house.shape(0, v, i, events, 0, w, kind, k));
                CHECKS.due("shape " + v + " " + i + " " + events + " " + w + " " + kind + " " + k + " of " + text, got, k < size ? found.get(k) : -1);
            }
        }
    }

    private static boolean isShape(List<Told> model, List<Told> part, int kind) {
        int n = model.size();
        int anchor = -1;
        for (int k = 0; k < n; k++) {
            Told one = model.get(k);
            Told other = part.get((kind & 2) != 0 ? n - 1 - k : k);
            Told first = part.get((kind & 2) != 0 ? n - 1 : 0);
            boolean lengths = (kind & 4) != 0 ? (long) one.length * first.length == (long) other.length * model.get(0).length : one.length == other.length;
            if (!lengths || one.step < 0 != other.step < 0) {
                return false;
            }
            if (one.step >= 0 && anchor < 0) {
                anchor = k;
            }
            if (one.step >= 0) {
                Told from = part.get((kind & 2) != 0 ? n - 1 - anchor : anchor);
                int gone = one.step - model.get(anchor).step;
                if (other.step - from.step != ((kind & 1) != 0 ? -gone : gone)) {
                    return false;
                }
            }
        }
        return true;
    }
}
