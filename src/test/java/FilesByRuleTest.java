import java.io.ByteArrayOutputStream;
import java.util.ArrayList;
import java.util.Arrays;
import java.util.List;
import java.util.Random;
import java.util.TreeMap;
import java.util.TreeSet;
import java.util.function.ToLongFunction;

/** Part VI: random files, right and spoilt, opened and written down anew by the document's rules. */
public final class FilesByRuleTest {
    private static final Checks CHECKS = new Checks();
    private static final int[] NATURALS = {0, 2, 4, 5, 7, 9, 11};
    private static final int[] GRIDS = {4, 8, 16, 32};

    public static void main(String[] args) {
        int right = 0;
        int down = 0;
        for (int seed = 0; seed < 3000; seed++) {
            Random random = new Random(seed);
            byte[] file = spoil(random, file(random));
            Opened opened = new Opened(file);
            dueOpened("seed " + seed, file, opened);
            if (opened.fault == 0) {
                right++;
                down += dueDown("seed " + seed, file, opened, GRIDS[random.nextInt(4)]) ? 1 : 0;
            }
        }
        CHECKS.due("many files are right (" + right + ")", right > 1000 && right < 2500 ? 1 : 0, 1);
        CHECKS.due("many are written down (" + down + ")", down > 700 ? 1 : 0, 1);
        CHECKS.finish();
    }

    // how a file is made

    private static byte[] file(Random random) {
        ByteArrayOutputStream out = new ByteArrayOutputStream();
        int tracks = 1 + random.nextInt(random.nextInt(4) == 0 ? 8 : 3);
        int beyond = random.nextInt(5) == 0 ? random.nextInt(4) : 0;
        text(out, "MThd");
        wide(out, 6 + beyond, 4);
        wide(out, random.nextInt(2), 2);
        wide(out, tracks, 2);
        wide(out, new int[] {1, 24, 96, 96, 480, 960}[random.nextInt(6)], 2);
        wide(out, 0, beyond);
        for (int n = 0; n < tracks; n++) {
            if (random.nextInt(8) == 0) {
                int size = random.nextInt(6);
                text(out, random.nextInt(2) == 0 ? "MTrx" : "abcd");
                wide(out, size, 4);
                wide(out, 7, size);
            }
            byte[] track = track(random);
            text(out, "MTrk");
            wide(out, track.length + (random.nextInt(30) == 0 ? random.nextInt(5) - 2 : 0), 4);
            out.writeBytes(track);
        }
        if (random.nextInt(10) == 0) {
            text(out, "behind");
        }
        return out.toByteArray();
    }

    private static byte[] track(Random random) {
        ByteArrayOutputStream out = new ByteArrayOutputStream();
        int status = 0;
        int high = 24 + random.nextInt(60);
        int events = random.nextInt(random.nextInt(3) == 0 ? 60 : 16);
        for (int n = 0; n < events; n++) {
            delta(out, random.nextInt(40) == 0 ? random.nextInt(1 << 28) : random.nextInt(random.nextInt(2) == 0 ? 4 : 200));
            int sort = random.nextInt(14);
            if (sort == 0) {
                meta(random, out);
                status = 0;
            } else if (sort == 1 && random.nextInt(3) == 0) {
                out.write(random.nextInt(2) == 0 ? 240 : 247);
                int size = random.nextInt(4);
                delta(out, size);
                wide(out, 200, size);
                status = 0;
            } else {
                int next = new int[] {144, 144, 144, 128, 144, 176, 192, 208, 224, 160}[sort < 9 ? random.nextInt(5) : random.nextInt(10)] + random.nextInt(2);
                if (next != status || random.nextInt(3) == 0) {
                    out.write(next);
                    status = next;
                }
                out.write(next / 16 == 12 ? random.nextInt(128) : high + random.nextInt(9));
                if (next / 16 != 12 && next / 16 != 13) {
                    out.write(random.nextInt(3) == 0 ? 0 : 1 + random.nextInt(127));
                }
            }
        }
        if (random.nextInt(6) != 0) {
            delta(out, random.nextInt(300));
            wide(out, 0xff2f00, 3);
            if (random.nextInt(8) == 0) {
                text(out, "left");
            }
        }
        return out.toByteArray();
    }

    private static void meta(Random random, ByteArrayOutputStream out) {
        int sort = new int[] {88, 89, 81, 3, 1}[random.nextInt(5)];
        int size = random.nextInt(4) == 0 ? random.nextInt(6) : sort == 88 ? 4 : sort == 89 ? 2 : 3;
        out.write(255);
        out.write(sort);
        delta(out, size);
        for (int n = 0; n < size; n++) {
            if (sort == 88) {
                out.write(random.nextInt(n == 0 ? 15 : 6));
            } else if (sort == 89) {
                out.write(n == 0 ? random.nextInt(19) - 9 : random.nextInt(5) / 2);
            } else {
                out.write(n == 0 ? random.nextInt(50) : random.nextInt(256));
            }
        }
    }

    private static byte[] spoil(Random random, byte[] file) {
        byte[] spoilt = file.clone();
        if (random.nextInt(4) == 0) {
            spoilt[random.nextInt(random.nextInt(2) == 0 ? 14 : file.length)] = (byte) (random.nextBoolean() ? random.nextInt(256) : random.nextInt(12));
        }
        int size = random.nextInt(6) == 0 ? random.nextInt(file.length) : file.length;
        return Arrays.copyOf(spoilt, Math.min(size, 3000));
    }

    private static void text(ByteArrayOutputStream out, String text) {
        for (char c : text.toCharArray()) {
            out.write(c);
        }
    }

    private static void wide(ByteArrayOutputStream out, int number, int bytes) {
        for (int n = bytes - 1; n >= 0; n--) {
            out.write(n > 3 ? 0 : number >> 8 * n);
        }
    }

    private static void delta(ByteArrayOutputStream out, int number) {
        if (number >= 1 << 21) {
            out.write(number >> 21 | 128);
        }
        if (number >= 1 << 14) {
            out.write(number >> 14 & 127 | 128);
        }
        if (number >= 1 << 7) {
            out.write(number >> 7 & 127 | 128);
        }
        out.write(number & 127);
    }

    // how it is opened

    private static final class Fault extends RuntimeException {
        private static final long serialVersionUID = 1;
        final int told;

        Fault(int sort, int place) {
            super("", null, false, false);
            told = sort + 16 * place;
        }
    }

    private static final class Opened {
        final byte[] tape;
        int fault;
        /** By what track() asks for. */
        final int[] head = {0, 0, 0, 0, 4, 4, 120};
        final List<long[]> sounds = new ArrayList<>();
        final int[] numbers = new int[8];
        private int at;
        private final boolean[] told = new boolean[128];

        Opened(byte[] file) {
            tape = file;
            Arrays.fill(numbers, -1);
            try {
                head();
            } catch (Fault wrong) {
                fault = wrong.told;
            }
        }

        private int next(long behind) {
            if (at >= behind || at >= tape.length) {
                throw new Fault(2, (int) Math.min(behind, tape.length));
            }
            return tape[at++] & 255;
        }

        private long number(int bytes) {
            long number = 0;
            for (int n = 0; n < bytes; n++) {
                number = number << 8 | next(tape.length);
            }
            return number;
        }

        private void head() {
            for (char c : "MThd".toCharArray()) {
                if (next(tape.length) != c) {
                    throw new Fault(1, at - 1);
                }
            }
            long size = number(4);
            if (size < 6) {
                throw new Fault(3, 4);
            }
            if (next(tape.length) != 0 || next(tape.length) > 1) {
                throw new Fault(1, at - 1);
            }
            head[0] = (int) number(2);
            if (head[0] < 1 || head[0] > 8) {
                throw new Fault(3, 10);
            }
            head[1] = (int) number(2);
            if (head[1] < 1 || head[1] > 960) {
                throw new Fault(3, 12);
            }
            passTo(8 + size);
            int tracks = 0;
            while (tracks < head[0]) {
                long name = number(4);
                long bytes = number(4);
                long behind = at + bytes;
                if (name == 0x4d54726b) {
                    track(tracks, behind);
                    tracks++;
                }
                passTo(behind);
            }
        }

        private void passTo(long place) {
            if (place > tape.length) {
                throw new Fault(2, tape.length);
            }
            at = (int) place;
        }

        private int delta(long behind) {
            int number = 0;
            for (int n = 1; true; n++) {
                int b = next(behind);
                number = number << 7 | b & 127;
                if (b < 128) {
                    return number;
                }
                if (n == 4) {
                    throw new Fault(1, at - 1);
                }
            }
        }

        private int low(long behind) {
            int b = next(behind);
            if (b > 127) {
                throw new Fault(1, at - 1);
            }
            return b;
        }

        private void track(int track, long behind) {
            List<long[]> open = new ArrayList<>();
            long tick = 0;
            int status = 0;
            boolean done = false;
            while (at < behind && !done) {
                tick += delta(behind);
                int from = at;
                int b = next(behind);
                if (b == 255 || b == 240 || b == 247) {
                    status = 0;
                    int sort = b == 255 ? low(behind) : 128;
                    ByteArrayOutputStream bytes = new ByteArrayOutputStream();
                    for (int n = delta(behind); n > 0; n--) {
                        bytes.write(next(behind));
                    }
                    meta(sort, bytes.toByteArray());
                    done = sort == 47;
                } else if (b > 239 || b < 128 && status == 0) {
                    throw new Fault(1, from);
                } else {
                    status = b < 128 ? status : b;
                    int first = b < 128 ? b : low(behind);
                    int second = status / 16 == 12 || status / 16 == 13 ? 0 : low(behind);
                    message(track, status, first, second, tick, from, open);
                }
            }
            for (long[] sound : open) {
                sound[5] = tick;
            }
        }

        private void message(int track, int status, int first, int second, long tick, int from, List<long[]> open) {
            if (status / 16 == 12 && numbers[track] < 0) {
                numbers[track] = first % 4;
            }
            if (status / 16 == 9 && second > 0) {
                if (sounds.size() == 400) {
                    throw new Fault(3, from);
                }
                long[] sound = {track, status % 16, first, second, tick, -1};
                sounds.add(sound);
                open.add(sound);
            } else if (status / 16 == 9 || status / 16 == 8) {
                for (long[] sound : open) {
                    if (sound[1] == status % 16 && sound[2] == first) {
                        sound[5] = tick;
                        open.remove(sound);
                        break;
                    }
                }
            }
        }

        private void meta(int sort, byte[] bytes) {
            if (sort > 127 || told[sort]) {
                return;
            }
            if (sort == 88 && bytes.length >= 4 && bytes[0] >= 1 && bytes[0] <= 12 && bytes[1] >= 1 && bytes[1] <= 4) {
                head[4] = bytes[0];
                head[5] = 1 << bytes[1];
                told[sort] = true;
            }
            if (sort == 89 && bytes.length >= 2 && bytes[0] >= -7 && bytes[0] <= 7 && bytes[1] >= 0 && bytes[1] <= 1) {
                head[2] = bytes[0];
                head[3] = bytes[1];
                told[sort] = true;
            }
            if (sort == 81 && bytes.length == 3) {
                int number = (bytes[0] & 255) << 16 | (bytes[1] & 255) << 8 | bytes[2] & 255;
                head[6] = number == 0 ? 300 : Math.min(300, Math.max(20, 60_000_000 / number));
                told[sort] = true;
            }
        }
    }

    private static void dueOpened(String name, byte[] file, Opened opened) {
        Script script = new Script().bytes(file);
        CHECKS.due("open of " + name, script.ask(StaveHouse::open), opened.fault);
        Script behind = script.copy().then(StaveHouse::open);
        if (opened.fault != 0) {
            CHECKS.due("no file of " + name, behind.ask(house -> house.track(0)), Integer.MIN_VALUE);
            return;
        }
        List<ToLongFunction<StaveHouse>> questions = new ArrayList<>();
        for (int n = 0; n < 9; n++) {
            int what = n;
            questions.add(house -> house.track(what));
        }
        for (int n = 0; n < 7 * opened.sounds.size() + 1; n++) {
            int at = n;
            questions.add(house -> house.sound(at / 7, at % 7));
        }
        long[] want = new long[questions.size()];
        Arrays.fill(want, -1);
        for (int n = 0; n < 7; n++) {
            want[n] = opened.head[n];
        }
        want[7] = opened.sounds.size();
        want[8] = Integer.MIN_VALUE;
        for (int n = 0; n < opened.sounds.size(); n++) {
            System.arraycopy(opened.sounds.get(n), 0, want, 9 + 7 * n, 6);
        }
        CHECKS.dueSame("file of " + name, behind.ask(questions), want);
    }

    // how it is written down

    private static boolean dueDown(String name, byte[] file, Opened opened, int grid) {
        Script script = new Script().bytes(file).then(StaveHouse::open);
        String text = opened.sounds.isEmpty() ? "" : new Down(opened, grid).text();
        long want = opened.sounds.isEmpty() ? -1 : text == null ? -2 : text.length();
        CHECKS.due("down of " + name + " by " + grid, script.ask(house -> house.down(grid)), want);
        if (want <= 0) {
            return false;
        }
        Script behind = script.copy().then(house -> house.down(grid));
        CHECKS.dueText("text of " + name + " by " + grid, behind.written(want), text);
        long read = behind.then(StaveHouse::again).ask(house -> house.read(0));
        CHECKS.due("the text can be read, if its events are not too many: " + name, read == 0 || read % 16 == 8 ? 1 : 0, 1);
        return true;
    }

    private static final class Down {
        private final Opened file;
        private final int grid;
        private final int bar;
        private final StringBuilder text = new StringBuilder();

        Down(Opened opened, int g) {
            file = opened;
            grid = g;
            bar = 512 * file.head[4] / file.head[5];
        }

        private long place(long tick) {
            return Math.floorDiv(2 * tick * grid + 4L * file.head[1], 8L * file.head[1]);
        }

        /** Null if it has no room. */
        String text() {
            List<List<long[]>> voices = new ArrayList<>();
            for (int track = 0; track < file.head[0] && voices.size() < 4; track++) {
                List<long[]> sounds = new ArrayList<>();
                for (long[] sound : file.sounds) {
                    if (sound[0] == track) {
                        sounds.add(sound);
                    }
                }
                if (!sounds.isEmpty()) {
                    voices.add(sounds);
                }
            }
            long last = 0;
            for (List<long[]> sounds : voices) {
                for (long[] span : spans(sounds)) {
                    last = Math.max(last, span[1]);
                }
            }
            last *= 512 / grid;
            if (last > 100L * bar) {
                return null;
            }
            head();
            for (int v = 0; v < voices.size(); v++) {
                voice(voices.get(v), v, (int) last);
            }
            return text.length() > 3000 ? null : text.toString();
        }

        /** Beginning and end of each event, in units of the grid. */
        private List<long[]> spans(List<long[]> sounds) {
            TreeMap<Long, Long> ends = new TreeMap<>();
            for (long[] sound : sounds) {
                ends.merge(place(sound[4]), place(sound[5]), Math::max);
            }
            List<long[]> spans = new ArrayList<>();
            for (long from : ends.keySet()) {
                Long next = ends.higherKey(from);
                long to = next == null ? ends.get(from) : Math.min(next, ends.get(from));
                spans.add(new long[] {from, Math.max(to, from + 1)});
            }
            return spans;
        }

        private void head() {
            int fifths = file.head[2];
            text.append("key ").append(fifths).append(file.head[3] == 1 ? " minor" : " major").append('\n');
            text.append("time ").append(file.head[4]).append('/').append(file.head[5]).append('\n');
            text.append("tempo ").append(file.head[6]).append('\n');
        }

        private void voice(List<long[]> sounds, int v, int last) {
            double mean = sounds.stream().mapToLong(sound -> sound[2]).average().getAsDouble();
            text.append("voice v").append("abcd".charAt(v)).append(mean >= 60 ? " treble " : " bass ");
            text.append(Math.max(file.numbers[(int) sounds.get(0)[0]], 0)).append(" {\n");
            int come = 0;
            int unit = 512 / grid;
            for (long[] span : spans(sounds)) {
                span("", come, (int) span[0] * unit);
                span(pitches(sounds, span[0]), (int) span[0] * unit, (int) span[1] * unit);
                come = (int) span[1] * unit;
            }
            span("", come, last);
            span("", last, last + Math.floorMod(-last, bar));
            text.append("}\n");
        }

        /** Empty for a rest. */
        private String pitches(List<long[]> sounds, long from) {
            TreeSet<Integer> tones = new TreeSet<>();
            for (long[] sound : sounds) {
                if (place(sound[4]) == from) {
                    tones.add((int) sound[2]);
                }
            }
            TreeMap<Integer, String> pitches = new TreeMap<>();
            tones.stream().limit(6).forEach(tone -> {
                for (int f = file.head[2] - 5; f <= file.head[2] + 6; f++) {
                    int letter = Math.floorMod(4 * f, 7);
                    int alteration = Math.floorDiv(f + 1, 7);
                    for (int octave = 0; octave <= 8; octave++) {
                        if ((7 * f - tone) % 12 == 0 && 12 * (octave + 1) + NATURALS[letter] + alteration == tone) {
                            String sign = alteration < 0 ? "b".repeat(-alteration) : "#".repeat(alteration);
                            pitches.putIfAbsent(7 * octave + letter, "cdefgab".charAt(letter) + sign + octave);
                        }
                    }
                }
            });
            String all = String.join(" ", pitches.values());
            return pitches.size() > 1 ? "<" + all + ">" : all;
        }

        private void span(String pitches, int from, int to) {
            int at = from;
            while (at < to) {
                int behind = Math.min(to, (at / bar + 1) * bar);
                int form = form(at % bar, behind - at);
                at += 512 / (1 << form / 3) * (4 + new int[] {0, 2, 3}[form % 3]) / 4;
                text.append(pitches.isEmpty() ? "r" : pitches).append(':').append(1 << form / 3).append(".".repeat(form % 3));
                text.append(at < to && !pitches.isEmpty() ? "~ " : " ").append(at % bar == 0 ? "|\n" : "");
            }
        }

        /** Three times the form and the points: of all that are allowed the longest, else of all that have room. */
        private int form(int from, int left) {
            int best = -1;
            int longest = 0;
            int any = -1;
            int longestAny = 0;
            for (int form = 0; form < 24; form++) {
                int size = (512 >> form / 3) * (4 + new int[] {0, 2, 3}[form % 3]) / 4;
                int bound = Math.max(strength(from), strength(from + size));
                boolean allowed = size <= left;
                for (int at = from + 1; at < from + size && allowed; at++) {
                    allowed = strength(at) <= bound;
                }
                if (allowed && size > longest) {
                    best = form;
                    longest = size;
                }
                if (size <= left && size > longestAny) {
                    any = form;
                    longestAny = size;
                }
            }
            return best < 0 ? any : best;
        }

        private int strength(int at) {
            int n = file.head[4];
            int d = file.head[5];
            int beat = 512 / d * (d >= 8 && n % 3 == 0 ? 3 : d <= 4 ? 1 : 2);
            if (at == 0 || at == bar) {
                return 9;
            }
            if (n % 2 == 0 && 2 * at == bar) {
                return 8;
            }
            if (at % beat == 0) {
                return 7;
            }
            int strength = 6;
            for (int part = 512 / d; strength > 1 && at % part != 0; part /= 2) {
                strength--;
            }
            return strength;
        }
    }
}
