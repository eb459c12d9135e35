import java.util.ArrayList;
import java.util.Arrays;
import java.util.List;
import java.util.Random;
import java.util.function.ToLongFunction;

/** Part V and the key that is heard, reckoned anew from the events of random pieces. */
public final class PerformancesByRuleTest {
    private static final Checks CHECKS = new Checks();
    private static final int[] NATURALS = {0, 2, 4, 5, 7, 9, 11};
    private static final int[] MAJOR = {635, 223, 348, 233, 438, 409, 252, 519, 239, 366, 229, 288};
    private static final int[] MINOR = {633, 268, 352, 538, 260, 353, 254, 475, 398, 269, 334, 317};
    private static final int[] FORCES = {20, 33, 46, 59, 72, 85, 98, 111};

    public static void main(String[] args) {
        int right = 0;
        for (int seed = 0; seed < 700; seed++) {
            Random random = new Random(seed);
            right += dueStrokes(text(random)) ? 1 : 0;
        }
        CHECKS.due("most of the texts are right (" + right + ")", right > 300 ? 1 : 0, 1);
        CHECKS.finish();
    }

    private static final class Told {
        long from;
        long to;
        int marks;
        int loud;
        int[] steps;
        int[] tones;
        boolean slurred;

        boolean has(int mark) {
            return (marks & mark) != 0;
        }

        int find(int step, int tone) {
            for (int k = 0; k < steps.length; k++) {
                if (steps[k] == step && tones[k] == tone) {
                    return k;
                }
            }
            return -1;
        }
    }

    private static String text(Random random) {
        int fifths = random.nextInt(15) - 7;
        StringBuilder text = new StringBuilder("key " + (fifths < 0 ? "-" : "") + Math.abs(fifths) + " minor time 12/2 ");
        int voices = 1 + random.nextInt(3);
        int groups = 2 + random.nextInt(8);
        for (int v = 0; v < voices; v++) {
            text.append("voice ").append((char) ('s' + v)).append(" bass 0{");
            for (int n = 0; n < groups; n++) {
                group(random, text);
            }
            text.append("} ");
        }
        return text.toString();
    }

    /** A quarter's worth of events, or four quarters tied in a chord. */
    private static void group(Random random, StringBuilder text) {
        if (random.nextInt(5) == 0) {
            text.append("! ").append(new String[] {"ppp", "pp", "p", "mp", "mf", "f", "ff", "fff"}[random.nextInt(8)]).append(' ');
        }
        switch (random.nextInt(7)) {
            case 0:
                text.append("[3/2:").append(event(random, ":8")).append(event(random, ":8")).append(event(random, ":8")).append("] ");
                break;
            case 1:
                text.append("[5/4:").append(event(random, ":16").repeat(5)).append("] ");
                break;
            case 2:
                text.append("[7/8:").append(event(random, ":32")).append(event(random, ":32").repeat(6)).append("] ");
                break;
            case 3:
                String chord = random.nextInt(2) == 0 ? "<c4 e4 g4>" : "<c4 f4 g4>";
                text.append(chord).append(":8~").append(marks(random)).append(' ').append(random.nextInt(2) == 0 ? "<c4 e4 a4>:8" : "<c4 d4 g4>:8").append(marks(random)).append(' ');
                break;
            case 4:
                text.append("c4:16~").append(marks(random)).append(" c4:16").append(marks(random)).append(" r:8 ");
                break;
            case 5:
                text.append("d4:16( ").append(event(random, ":16")).append(event(random, ":16")).append("f4:16)").append(marks(random)).append(' ');
                break;
            default:
                text.append(event(random, ":4"));
                break;
        }
    }

    private static String event(Random random, String length) {
        if (random.nextInt(7) == 0) {
            return "r" + length + " ";
        }
        String pitch = "cdefgab".charAt(random.nextInt(7)) + new String[] {"", "#", "b"}[random.nextInt(3)] + random.nextInt(9);
        return pitch + length + marks(random) + " ";
    }

    private static String marks(Random random) {
        StringBuilder marks = new StringBuilder();
        for (char mark : new char[] {'\'', '^', '-', '%'}) {
            marks.append(random.nextInt(5) == 0 ? String.valueOf(mark) : "");
        }
        return marks.toString();
    }

    private static boolean dueStrokes(String text) {
        Script script = new Script().piece(0, text).then(house -> house.perform(0));
        if (script.ask(house -> house.look(0, 0)) < 0) {
            return false;
        }
        int fifths = (int) script.ask(house -> house.look(0, 2));
        // from, to, voice, tone, force, event
        List<long[]> sounds = new ArrayList<>();
        long voices = script.ask(house -> house.look(0, 0));
        for (int v = 0; v < voices; v++) {
            addSounds(sounds, eventsOf(script, v), v, fifths);
        }
        List<long[]> strokes = new ArrayList<>();
        for (long[] sound : sounds) {
            strokes.add(new long[] {sound[0], 1, sound[2], sound[3], sound[5], sound[4]});
            strokes.add(new long[] {sound[1], 0, sound[2], sound[3], sound[5], 0});
        }
        strokes.sort((a, b) -> Arrays.compare(a, b));
        CHECKS.due("sounds of " + text, script.ask(house -> house.look(0, 11)), sounds.size());
        List<ToLongFunction<StaveHouse>> questions = new ArrayList<>();
        for (int n = 0; n < 4 * strokes.size(); n++) {
            int at = n;
            questions.add(house -> house.stroke(0, at / 4, at % 4));
        }
        long[] want = new long[questions.size()];
        for (int n = 0; n < strokes.size(); n++) {
            long[] stroke = strokes.get(n);
            System.arraycopy(new long[] {stroke[0], stroke[2], stroke[3], stroke[5]}, 0, want, 4 * n, 4);
        }
        CHECKS.dueSame("strokes of " + text, script.ask(questions), want);
        CHECKS.due("key of " + text, script.ask(house -> house.look(0, 9)), keyOf(sounds));
        String file = file(strokes, (int) voices, fifths);
        CHECKS.due("file of " + text, script.ask(house -> house.file(0)), file.length());
        CHECKS.dueText("bytes of the file of " + text, script.copy().then(house -> house.file(0)).written(file.length()), file);
        return true;
    }

    /** WRITTEN, for the heads and voices that text() makes. */
    private static String file(List<long[]> strokes, int voices, int fifths) {
        StringBuilder file = new StringBuilder("MThd");
        put(file, 0, 0, 0, 6, 0, 1, 0, voices + 1, 0, 96);
        StringBuilder track = new StringBuilder();
        put(track, 0, 255, 88, 4, 12, 1, 24, 8, 0, 255, 89, 2, fifths & 255, 1, 0, 255, 81, 3, 7, 161, 32);
        putTrack(file, track);
        for (int v = 0; v < voices; v++) {
            track.setLength(0);
            put(track, 0, 255, 3, 1, 's' + v, 0, 192 + v, 0);
            long tick = 0;
            boolean first = true;
            for (long[] stroke : strokes) {
                if (stroke[2] == v) {
                    putDelta(track, (int) (stroke[0] - tick));
                    put(track, first ? new int[] {144 + v} : new int[0]);
                    put(track, (int) stroke[3], (int) stroke[5]);
                    tick = stroke[0];
                    first = false;
                }
            }
            putTrack(file, track);
        }
        return file.toString();
    }

    private static void put(StringBuilder row, int... bytes) {
        for (int b : bytes) {
            row.append((char) b);
        }
    }

    private static void putTrack(StringBuilder file, StringBuilder track) {
        put(track, 0, 255, 47, 0);
        file.append("MTrk");
        put(file, 0, 0, track.length() / 256, track.length() % 256);
        file.append(track);
    }

    private static void putDelta(StringBuilder row, int number) {
        if (number > 127) {
            put(row, number / 128 + 128);
        }
        put(row, number % 128);
    }

    private static List<Told> eventsOf(Script script, int v) {
        List<ToLongFunction<StaveHouse>> questions = new ArrayList<>();
        long count = script.ask(house -> house.voice(0, v, 2));
        for (int n = 0; n < 19 * count; n++) {
            int i = n / 19;
            int at = n % 19;
            questions.add(house -> at < 7 ? house.event(0, v, i, at) : house.pitch(0, v, i, (at - 7) / 2, (at - 7) % 2 * 2));
        }
        long[] got = script.ask(questions);
        List<Told> events = new ArrayList<>();
        boolean slurred = false;
        for (int from = 0; from < got.length; from += 19) {
            Told event = new Told();
            event.from = 384 * got[from] / got[from + 1];
            event.to = 384 * (got[from] * got[from + 3] + got[from + 2] * got[from + 1]) / (got[from + 1] * got[from + 3]);
            event.marks = (int) got[from + 5];
            event.loud = (int) got[from + 6];
            event.steps = new int[(int) got[from + 4]];
            event.tones = new int[event.steps.length];
            for (int k = 0; k < event.steps.length; k++) {
                event.steps[k] = (int) got[from + 7 + 2 * k];
                event.tones[k] = (int) got[from + 8 + 2 * k];
            }
            slurred = slurred && !event.has(4) || event.has(2);
            event.slurred = slurred;
            events.add(event);
        }
        return events;
    }

    private static void addSounds(List<long[]> sounds, List<Told> events, int v, int fifths) {
        for (int i = 0; i < events.size(); i++) {
            Told event = events.get(i);
            for (int k = 0; k < event.steps.length; k++) {
                Told before = i > 0 ? events.get(i - 1) : null;
                if (before != null && before.has(1) && before.find(event.steps[k], event.tones[k]) >= 0) {
                    continue;
                }
                int last = i;
                while (events.get(last).has(1) && events.get(last + 1).find(event.steps[k], event.tones[k]) >= 0) {
                    last++;
                }
                long l = events.get(last).to - event.from;
                int force = Math.min(127, FORCES[event.loud] + (event.has(16) ? 15 : 0));
                if (event.has(64) && event.steps.length == 1 && last == i) {
                    addTrill(sounds, event, v, i, fifths, force);
                } else if (l > 0) {
                    sounds.add(new long[] {event.from, event.from + ends(events.get(last), l), v, event.tones[k], force, i});
                }
            }
        }
    }

    private static long ends(Told last, long l) {
        if (last.has(8)) {
            return Math.max(1, l / 2);
        }
        return last.has(32) || last.slurred ? l : l - l / 8;
    }

    private static void addTrill(List<long[]> sounds, Told event, int v, int i, int fifths, int force) {
        int above = event.steps[0] + 1;
        String order = fifths > 0 ? "fcgdaeb" : "beadgcf";
        int alteration = order.indexOf("cdefgab".charAt(above % 7)) < Math.abs(fifths) ? Integer.signum(fifths) : 0;
        long high = above > 62 ? event.tones[0] : 12 * (above / 7 + 1) + NATURALS[above % 7] + alteration;
        int n = 0;
        for (long at = event.from; at < event.to; at += 12) {
            sounds.add(new long[] {at, Math.min(at + 12, event.to), v, n % 2 == 0 ? event.tones[0] : high, force, i});
            n++;
        }
    }

    private static int keyOf(List<long[]> sounds) {
        int best = -1;
        long greatest = -1;
        for (int key = 0; key < 24 && !sounds.isEmpty(); key++) {
            long sum = 0;
            for (long[] sound : sounds) {
                int above = Math.floorMod((int) sound[3] - key, 12);
                sum += (sound[1] - sound[0]) * (key < 12 ? MAJOR[above] : MINOR[above]);
            }
            if (sum > greatest) {
                greatest = sum;
                best = key;
            }
        }
        return best;
    }
}
