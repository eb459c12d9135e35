import java.util.ArrayList;
import java.util.Collections;
import java.util.List;
import java.util.Random;
import java.util.function.ToLongFunction;

/** Part IV, reckoned anew from a piece's events, place by place and way by way, for random pieces in all times, keys and clefs. */
public final class StavesByRuleTest {
    private static final Checks CHECKS = new Checks();
    /** A whole, in the unit in which all is reckoned here. */
    private static final int WHOLE = 1024;
    private static final String[] CLEFS = {"treble", "bass", "alto", "tenor"};
    private static final int[] LOWEST = {30, 18, 24, 22};
    private static int piecesRight;

    public static void main(String[] args) {
        Random random = new Random(11);
        for (int below = 2; below <= 16; below *= 2) {
            for (int above = 1; above <= 12; above++) {
                for (int n = 0; n < 3; n++) {
                    onePiece(random, above, below);
                }
            }
        }
        for (int n = 0; n < 60; n++) {
            linesOf(random);
        }
        CHECKS.due("most of the pieces are right ones (" + piecesRight + ")", piecesRight > 150 ? 1 : 0, 1);
        CHECKS.finish();
    }

    /** An event as it is told by event() and pitch(). */
    private static final class Told {
        int place;
        int length;
        int marks;
        int[] steps;
        int[] alterations;

        boolean ties(Told next, int k) {
            for (int n = 0; (marks & 1) != 0 && next != null && n < next.steps.length; n++) {
                if (next.steps[n] == steps[k] && next.alterations[n] == alterations[k]) {
                    return true;
                }
            }
            return false;
        }
    }

    /** A note as the rules give it. */
    private static final class Note {
        int event;
        int bar;
        int place;
        int form;
        int points;
        int held;
        int accidentals;
        int ledgers;
        int group = -1;
        int beams;
        int stem;
        int[] heights = {};

        boolean isRest() {
            return heights.length == 0;
        }

        int sum() {
            return heights[0] + heights[heights.length - 1];
        }

        long[] row() {
            int common = WHOLE;
            for (; place % common != 0; common /= 2) {
                continue;
            }
            return new long[] {event, bar, place / common, WHOLE / common, form, points, held, accidentals, ledgers, group, beams, stem};
        }
    }

    private static String music(Random random, List<String> lengths) {
        StringBuilder text = new StringBuilder();
        for (String length : lengths) {
            String pitch = random.nextInt(4) == 0 ? "r" : pitch(random);
            if (!pitch.equals("r") && random.nextInt(3) == 0) {
                pitch = chord(random);
            }
            int slow = length.indexOf(':');
            String tied = pitch.equals("r") || length.length() < 2 ? "" : random.nextInt(4) == 0 ? "~" : "";
            String one = pitch + length.substring(slow);
            text.append(slow == 0 ? one + tied : length.substring(0, slow) + one + tied + "}").append(' ');
            if (!tied.isEmpty()) {
                // what it ties to stands behind it, as long again
                text.append(slow == 0 ? one : length.substring(0, slow) + one + "}").append(' ');
            } else {
                text.append(slow == 0 ? "r" + length : length.substring(0, slow) + "r" + length.substring(slow) + "}").append(' ');
            }
        }
        return text.toString();
    }

    private static String pitch(Random random) {
        return "cdefgab".charAt(random.nextInt(7)) + new String[] {"", "", "", "#", "b", "##", "bb"}[random.nextInt(7)] + (2 + random.nextInt(4));
    }

    private static String chord(Random random) {
        int size = 2 + random.nextInt(4);
        StringBuilder text = new StringBuilder("<");
        for (int n = 0; n < size; n++) {
            text.append("cegbdf".charAt(n)).append(new String[] {"", "#", "b"}[random.nextInt(3)]).append(3 + random.nextInt(2)).append(n + 1 < size ? " " : ">");
        }
        return text.toString();
    }

    private static List<String> lengths(Random random, int size) {
        String[] all = {":1", ":1.", ":2", ":2.", ":2..", ":4", ":4.", ":4..", ":8", ":8.", ":8..", ":16", ":16.", ":32", "slow 1/4{:32", "slow 3/4{:32",
            "slow 5/4{:32", "slow 5/4{:8", "slow 3/1{:2", "slow 7/4{:4"};
        List<String> row = new ArrayList<>();
        for (int n = 0; n < size; n++) {
            row.add(all[random.nextInt(all.length)]);
        }
        return row;
    }

    private static void onePiece(Random random, int above, int below) {
        int fifths = random.nextInt(15) - 7;
        int clef = random.nextInt(4);
        String text = "key " + (fifths < 0 ? "-" : "") + Math.abs(fifths) + " major time " + above + "/" + below + " voice v " + CLEFS[clef] + " 0 {"
            + music(random, lengths(random, 4 + random.nextInt(8))) + "}";
        Script script = new Script().piece(0, text);
        if (script.ask(house -> house.look(0, 0)) != 1) {
            return;
        }
        piecesRight++;
        List<Note> notes = notesOf(script, 0, above, below, fifths, clef);
        CHECKS.due("notes of " + text, script.ask(house -> house.voice(0, 0, 3)), notes.size());
        List<ToLongFunction<StaveHouse>> questions = new ArrayList<>();
        for (int n = 0; n < 12 * notes.size(); n++) {
            int at = n;
            questions.add(house -> house.note(0, 0, at / 12, at % 12));
        }
        long[] got = script.ask(questions);
        for (int n = 0; n < got.length; n++) {
            CHECKS.due("note " + n / 12 + ", " + n % 12 + " of " + text, got[n], notes.get(n / 12).row()[n % 12]);
        }
    }

    private static List<Told> eventsOf(Script script, int v) {
        List<Told> events = new ArrayList<>();
        List<ToLongFunction<StaveHouse>> questions = new ArrayList<>();
        long count = script.ask(house -> house.voice(0, v, 2));
        for (int n = 0; n < 18 * count; n++) {
            int i = n / 18;
            int at = n % 18;
            questions.add(house -> at < 6 ? house.event(0, v, i, at) : house.pitch(0, v, i, (at - 6) / 2, at % 2));
        }
        long[] got = script.ask(questions);
        for (int from = 0; from < got.length; from += 18) {
            Told event = new Told();
            event.place = (int) (got[from] * WHOLE / got[from + 1]);
            event.length = (int) (got[from + 2] * WHOLE / got[from + 3]);
            event.marks = (int) got[from + 5];
            event.steps = new int[(int) got[from + 4]];
            event.alterations = new int[event.steps.length];
            for (int k = 0; k < event.steps.length; k++) {
                event.steps[k] = (int) got[from + 6 + 2 * k];
                event.alterations[k] = (int) got[from + 7 + 2 * k];
            }
            events.add(event);
        }
        return events;
    }

    private static List<Note> notesOf(Script script, int v, int above, int below, int fifths, int clef) {
        List<Told> events = eventsOf(script, v);
        int bar = WHOLE / below * above;
        List<Note> notes = new ArrayList<>();
        int end = 0;
        for (int i = 0; i < events.size(); i++) {
            Told event = events.get(i);
            end = event.place + event.length;
            cut(notes, i, event.place, end, event.steps.length == 0, above, below);
        }
        if (end % bar != 0) {
            cut(notes, -1, end, end - end % bar + bar, true, above, below);
        }
        for (Note note : notes) {
            int[] steps = note.event < 0 ? new int[0] : events.get(note.event).steps;
            note.heights = new int[steps.length];
            for (int k = 0; k < steps.length; k++) {
                note.heights[k] = steps[k] - LOWEST[clef];
            }
            if (steps.length > 0) {
                int high = note.heights[steps.length - 1];
                int low = note.heights[0];
                note.ledgers = (high > 8 ? (high - 8) / 2 : 0) + (low < 0 ? -low / 2 : 0);
            }
        }
        hold(notes, events, fifths);
        beam(notes, beat(above, below));
        return notes;
    }

    private static int beat(int above, int below) {
        if (below >= 8 && above % 3 == 0) {
            return 3 * WHOLE / below;
        }
        return below <= 4 ? WHOLE / below : 2 * WHOLE / below;
    }

    private static int strength(int place, int above, int below) {
        int bar = WHOLE / below * above;
        if (place == 0 || place == bar) {
            return 9;
        }
        if (above % 2 == 0 && place * 2 == bar) {
            return 8;
        }
        if (place % beat(above, below) == 0) {
            return 7;
        }
        for (int n = 0; n < 5; n++) {
            if (place % (WHOLE / (below << n)) == 0) {
                return 6 - n;
            }
        }
        return 1;
    }

    private static boolean isCovered(int from, int to, int above, int below) {
        int ends = Math.max(strength(from, above, below), strength(to, above, below));
        for (int place = from + 1; place < to; place++) {
            if (strength(place, above, below) > ends) {
                return false;
            }
        }
        return true;
    }

    private static void cut(List<Note> notes, int event, int from, int to, boolean rest, int above, int below) {
        int bar = WHOLE / below * above;
        for (int at = from; at < to;) {
            int barEnd = at - at % bar + bar;
            int cutEnd = Math.min(to, barEnd);
            if (rest && cutEnd - at == bar) {
                add(notes, event, at, bar, 9, 0);
                at = cutEnd;
                continue;
            }
            while (at < cutEnd) {
                int best = 0;
                int bestAtAll = 0;
                for (int n = 0; n < 24; n++) {
                    int value = value(n / 3, n % 3);
                    if (value <= cutEnd - at) {
                        bestAtAll = Math.max(bestAtAll, value);
                        best = isCovered(at % bar, at % bar + value, above, below) ? Math.max(best, value) : best;
                    }
                }
                int chosen = best > 0 ? best : bestAtAll;
                for (int n = 0; n < 24; n++) {
                    if (value(n / 3, n % 3) == chosen) {
                        add(notes, event, at, bar, n / 3, n % 3);
                    }
                }
                at += chosen;
            }
        }
    }

    private static int value(int form, int points) {
        return (WHOLE >> form) * new int[] {4, 6, 7}[points] / 4;
    }

    private static void add(List<Note> notes, int event, int at, int bar, int form, int points) {
        Note note = new Note();
        note.event = event;
        note.bar = at / bar;
        note.place = at % bar;
        note.form = form;
        note.points = points;
        notes.add(note);
    }

    private static void hold(List<Note> notes, List<Told> events, int fifths) {
        int[] known = new int[63];
        for (int n = 0; n < notes.size(); n++) {
            Note note = notes.get(n);
            if (n == 0 || notes.get(n - 1).bar != note.bar) {
                for (int step = 0; step < 63; step++) {
                    known[step] = keyAlteration(fifths, step % 7);
                }
            }
            if (note.isRest()) {
                continue;
            }
            Told event = events.get(note.event);
            Told next = note.event + 1 < events.size() ? events.get(note.event + 1) : null;
            boolean goesOn = n + 1 < notes.size() && notes.get(n + 1).event == note.event;
            boolean cameOn = n > 0 && notes.get(n - 1).event == note.event;
            Told before = note.event > 0 ? events.get(note.event - 1) : null;
            for (int k = 0; k < event.steps.length; k++) {
                note.held |= goesOn || event.ties(next, k) ? 1 << k : 0;
                boolean heldOn = cameOn || before != null && tiedFrom(before, event, k);
                if (!heldOn && known[event.steps[k]] != event.alterations[k]) {
                    note.accidentals |= 1 << k;
                    known[event.steps[k]] = event.alterations[k];
                }
            }
        }
    }

    private static boolean tiedFrom(Told before, Told event, int k) {
        for (int n = 0; n < before.steps.length; n++) {
            if (before.steps[n] == event.steps[k] && before.alterations[n] == event.alterations[k] && before.ties(event, n)) {
                return true;
            }
        }
        return false;
    }

    private static int keyAlteration(int fifths, int letter) {
        String order = fifths > 0 ? "fcgdaeb" : "beadgcf";
        int rank = order.indexOf("cdefgab".charAt(letter));
        return rank < Math.abs(fifths) ? Integer.signum(fifths) : 0;
    }

    private static void beam(List<Note> notes, int beat) {
        int groups = 0;
        for (int from = 0; from < notes.size();) {
            int to = from;
            while (to < notes.size() && !notes.get(to).isRest() && notes.get(to).form >= 3 && notes.get(to).bar == notes.get(from).bar
                && notes.get(to).place / beat == notes.get(from).place / beat) {
                to++;
            }
            to = Math.max(to, from + 1);
            int sum = 0;
            for (int n = from; n < to; n++) {
                Note note = notes.get(n);
                sum += note.isRest() ? 0 : note.sum() - 8;
                note.group = to - from > 1 ? groups : -1;
                note.beams = n + 1 < to ? Math.min(note.form, notes.get(n + 1).form) - 2 : 0;
            }
            for (int n = from; n < to; n++) {
                Note note = notes.get(n);
                note.stem = note.isRest() || note.form == 0 ? 0 : sum < 0 ? 1 : 2;
            }
            groups += to - from > 1 ? 1 : 0;
            from = to;
        }
    }

    private static void linesOf(Random random) {
        int[][] times = {{4, 4}, {3, 4}, {6, 8}, {5, 8}, {2, 2}, {7, 16}};
        int[] time = times[random.nextInt(times.length)];
        int fifths = random.nextInt(15) - 7;
        List<String> one = lengths(random, 3 + random.nextInt(4));
        List<String> other = new ArrayList<>(one);
        Collections.shuffle(other, random);
        String text = "key " + (fifths < 0 ? "-" : "") + Math.abs(fifths) + " minor time " + time[0] + "/" + time[1] + " voice v treble 0 {"
            + music(random, one) + "} voice w bass 0 {" + music(random, other) + "}";
        Script script = new Script().piece(0, text);
        if (script.ask(house -> house.look(0, 0)) != 2) {
            return;
        }
        int bars = (int) script.ask(house -> house.look(0, 1));
        if (bars > 13) {
            return;
        }
        piecesRight++;
        List<List<Note>> parts = List.of(notesOf(script, 0, time[0], time[1], fifths, 0), notesOf(script, 1, time[0], time[1], fifths, 1));
        for (int width : new int[] {200, 200 + random.nextInt(300), 200 + random.nextInt(1800), 2000}) {
            dueLines(text, width, parts, bars, fifths, WHOLE / time[1] * time[0]);
        }
    }

    /** Of each bar its columns' places, behind one another, and their widths. */
    private static int[][][] columns(List<List<Note>> parts, int bars, int bar) {
        int[][][] all = new int[bars][2][];
        for (int b = 0; b < bars; b++) {
            int[] widths = new int[bar + 1];
            int[] points = new int[bar + 1];
            for (List<Note> part : parts) {
                for (Note note : part) {
                    if (note.bar == b) {
                        widths[note.place] = Math.max(widths[note.place], note.accidentals != 0 ? 14 : 8);
                        points[note.place] = Math.max(points[note.place], note.points);
                    }
                }
            }
            List<Integer> places = new ArrayList<>();
            for (int place = 0; place < bar; place++) {
                if (widths[place] > 0) {
                    places.add(place);
                }
            }
            all[b][0] = new int[places.size()];
            all[b][1] = new int[places.size()];
            for (int c = 0; c < places.size(); c++) {
                int place = places.get(c);
                int t = (c + 1 < places.size() ? places.get(c + 1) : bar) - place;
                int e = 0;
                while (2 << e <= t * 128 / WHOLE) {
                    e++;
                }
                all[b][0][c] = place;
                all[b][1][c] = widths[place] + 3 * points[place] + 4 * e;
            }
        }
        return all;
    }

    private static int wide(int[][][] columns, int from, int to, int fifths) {
        int w = 24 + 5 * Math.abs(fifths) + (from == 0 ? 12 : 0);
        for (int bar = from; bar < to; bar++) {
            w += 6;
            for (int width : columns[bar][1]) {
                w += width;
            }
        }
        return w;
    }

    /** -1: such a line is not. */
    private static long price(int w, int width, int bars, boolean last) {
        if (w <= width) {
            return last ? 0 : (long) (width - w) * (width - w);
        }
        return bars == 1 ? 4L * (w - width) * (w - width) : -1;
    }

    private static void dueLines(String text, int width, List<List<Note>> parts, int bars, int fifths, int bar) {
        int[][][] columns = columns(parts, bars, bar);
        List<Integer> best = null;
        long least = 0;
        // each way is a row of bits: a line ends behind each bar whose bit is set; most bars first are tried first
        for (int way = 0; way < 1 << bars - 1; way++) {
            List<Integer> firsts = new ArrayList<>(List.of(0));
            for (int b = 1; b < bars; b++) {
                if ((way >> bars - 1 - b & 1) != 0) {
                    firsts.add(b);
                }
            }
            firsts.add(bars);
            long sum = 0;
            for (int l = 0; l + 1 < firsts.size() && sum >= 0; l++) {
                int w = wide(columns, firsts.get(l), firsts.get(l + 1), fifths);
                long price = price(w, width, firsts.get(l + 1) - firsts.get(l), l + 2 == firsts.size());
                sum = price < 0 ? -1 : sum + price;
            }
            if (sum >= 0 && (best == null || sum < least)) {
                best = firsts;
                least = sum;
            }
        }
        Script script = new Script().piece(0, text).then(house -> house.lines(0, width));
        int lines = best.size() - 1;
        CHECKS.due("lines of " + width + " of " + text, script.ask(house -> house.look(0, 10)), lines);
        for (int l = 0; l < lines; l++) {
            dueLine(script, text, width, columns, parts, best, l, fifths);
        }
    }

    private static void dueLine(Script script, String text, int width, int[][][] columns, List<List<Note>> parts, List<Integer> firsts, int l, int fifths) {
        int from = firsts.get(l);
        int to = firsts.get(l + 1);
        boolean last = l + 2 == firsts.size();
        int w = wide(columns, from, to, fifths);
        int all = 0;
        for (int bar = from; bar < to; bar++) {
            all += columns[bar][0].length;
        }
        long[] want = {from, to - from, w, all, price(w, width, to - from, last)};
        for (int n = 0; n < 5; n++) {
            int what = n;
            CHECKS.due("line " + l + ", " + n + " of " + width + " of " + text, script.ask(house -> house.line(0, l, what)), want[n]);
        }
        int x = 24 + 5 * Math.abs(fifths) + (from == 0 ? 12 : 0);
        int ahead = 0;
        for (int bar = from; bar < to; bar++) {
            x += 6;
            for (int c = 0; c < columns[bar][0].length; c++) {
                int more = w < width && !last ? (width - w) * ahead / all : 0;
                dueX(script, text, parts, bar, columns[bar][0][c], x + more);
                x += columns[bar][1][c];
                ahead++;
            }
        }
    }

    private static void dueX(Script script, String text, List<List<Note>> parts, int bar, int place, int want) {
        for (int v = 0; v < parts.size(); v++) {
            for (int i = 0; i < parts.get(v).size(); i++) {
                if (parts.get(v).get(i).bar == bar && parts.get(v).get(i).place == place) {
                    int voice = v;
                    int note = i;
                    CHECKS.due("x of " + v + ", " + i + " of " + text, script.ask(house -> house.x(0, voice, note)), want);
                }
            }
        }
    }
}
