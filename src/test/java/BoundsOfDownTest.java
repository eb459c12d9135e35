import java.io.ByteArrayOutputStream;
import java.util.ArrayList;
import java.util.List;
import java.util.function.ToLongFunction;

/** What is WRITTEN DOWN of Part VI, and promise 22, sentence by sentence. */
public final class BoundsOfDownTest {
    private static final Checks CHECKS = new Checks();
    private static final String HEAD = "key 0 major\ntime 4/4\ntempo 120\n";

    public static void main(String[] args) {
        grids();
        placesOfTicks();
        fourVoices();
        means();
        sixTones();
        ends();
        restsBetween();
        upToTheLastOfAll();
        spelling();
        stepsLeftOut();
        heads();
        notesOfPartFour();
        mostBars();
        mostBytes();
        refused();
        CHECKS.finish();
    }

    private static byte[] delta(long number) {
        ByteArrayOutputStream out = new ByteArrayOutputStream();
        for (int n = 3; n > 0; n--) {
            if (number >> 7 * n != 0) {
                out.write((int) (number >> 7 * n & 127) + 128);
            }
        }
        out.write((int) (number & 127));
        return out.toByteArray();
    }

    /** A track of sounds, each told as tone, beginning, end; they must stand in the order of their beginnings. */
    private static byte[] track(int[]... sounds) {
        List<int[]> strokes = new ArrayList<>();
        for (int[] sound : sounds) {
            strokes.add(new int[] {sound[1], sound[0], 1});
            strokes.add(new int[] {sound[2], sound[0], 0});
        }
        // ends first; a sound of no ticks still ends behind its beginning
        strokes.sort((a, b) -> a[0] != b[0] ? a[0] - b[0] : 0);
        ByteArrayOutputStream out = new ByteArrayOutputStream();
        int tick = 0;
        for (int[] stroke : strokes) {
            out.writeBytes(delta(stroke[0] - tick));
            tick = stroke[0];
            out.writeBytes(Checks.bytes(144, stroke[1], stroke[2]));
        }
        return chunk(out.toByteArray());
    }

    private static byte[] chunk(byte[] bytes) {
        return Checks.join(Checks.bytes('M', 'T', 'r', 'k', 0, 0, bytes.length >> 8, bytes.length), bytes);
    }

    private static byte[] told(int fifths, int minor, int above, int log, int micro) {
        return chunk(Checks.bytes(0, 255, 88, 4, above, log, 24, 8, 0, 255, 89, 2, fifths, minor, 0, 255, 81, 3, micro >> 16, micro >> 8, micro));
    }

    private static Script opened(int division, byte[]... tracks) {
        byte[] head = Checks.bytes('M', 'T', 'h', 'd', 0, 0, 0, 6, 0, 1, 0, tracks.length, division >> 8, division);
        Script script = new Script().bytes(Checks.join(head, Checks.join(tracks))).then(StaveHouse::open);
        CHECKS.due("is open", script.ask(house -> house.track(1)), division);
        return script;
    }

    private static String textOf(Script script, int grid) {
        long size = script.ask(house -> house.down(grid));
        return size < 0 ? String.valueOf(size) : script.copy().then(house -> house.down(grid)).written(size);
    }

    private static void dueDown(Script script, int grid, String want) {
        CHECKS.dueText("down(" + grid + ")", textOf(script, grid), want);
        CHECKS.due("how many bytes", script.ask(house -> house.down(grid)), want.length());
    }

    /** "WRITTEN DOWN by a GRID g (4, 8, 16 or 32)". */
    private static void grids() {
        Script script = opened(96, track(new int[] {60, 0, 96}));
        for (int grid = -40; grid <= 70; grid++) {
            int g = grid;
            boolean is = grid == 4 || grid == 8 || grid == 16 || grid == 32;
            CHECKS.due("down(" + grid + ")", script.ask(house -> house.down(g)), is ? HEAD.length() + "voice va treble 0 {\nc4:4 r:2. |\n}\n".length() : -1);
        }
    }

    /** "q = FLOOR of (2 * TICK * g + 4 * DIVISION) by (8 * DIVISION)": nearest places, halves upwards. */
    private static void placesOfTicks() {
        int[][] asked = {{96, 1}, {7, 1}, {1, 1}, {960, 13}, {5, 1}};
        for (int[] row : asked) {
            int division = row[0];
            for (int grid = 4; grid <= 32; grid *= 2) {
                int g = grid;
                for (int tick = 0; tick <= Math.min(4 * division, 60); tick++) {
                    int at = tick * row[1];
                    long q = Math.floorDiv(2L * at * grid + 4L * division, 8L * division);
                    Script script = opened(division, track(new int[] {60, at, at + 8 * division})).then(house -> house.down(g)).then(StaveHouse::again).then(house -> house.read(1));
                    StaveHouse house = script.made();
                    CHECKS.due("read", house.look(1, 0), 1);
                    int i = 0;
                    while (house.event(1, 0, i, 4) == 0) {
                        i++;
                    }
                    CHECKS.due("place of " + at + " by " + division + " and " + grid, house.event(1, 0, i, 0) * grid, q * house.event(1, 0, i, 1));
                }
            }
        }
    }

    /** "The TRACKS with SOUNDS, in order, four at most, are VOICES va, vb, ..". */
    private static void fourVoices() {
        String[] names = {"va", "vb", "vc", "vd"};
        for (int count = 1; count <= 8; count++) {
            byte[][] tracks = new byte[count][];
            StringBuilder want = new StringBuilder(HEAD);
            for (int n = 0; n < count; n++) {
                tracks[n] = track(new int[] {60 + n, 0, 4});
                if (n < 4) {
                    want.append("voice ").append(names[n]).append(" treble 0 {\n").append(new String[] {"c4", "db4", "d4", "eb4"}[n]).append(":4 r:2. |\n}\n");
                }
            }
            dueDown(opened(4, tracks), 4, want.toString());
        }
        // those without sounds are passed over, the fifth isn't one of them
        byte[] none = chunk(Checks.bytes(0, 192, 3));
        dueDown(opened(4, none, track(new int[] {60, 0, 4}), none, track(new int[] {62, 0, 4}), none), 4,
            HEAD + "voice va treble 0 {\nc4:4 r:2. |\n}\nvoice vb treble 0 {\nd4:4 r:2. |\n}\n");
    }

    /** "treble, if the TONES of their SOUNDS are 60 or more in the mean, else bass". */
    private static void means() {
        int[][] tones = {{60}, {59}, {59, 61}, {59, 60}, {59, 59, 62}, {59, 59, 61}, {0, 120}, {0, 119}, {127, 0, 53}, {127, 0, 52}};
        for (int[] row : tones) {
            int[][] sounds = new int[row.length][];
            int sum = 0;
            for (int n = 0; n < row.length; n++) {
                sounds[n] = new int[] {row[n], 4 * n, 4 * n + 4};
                sum += row[n];
            }
            String text = textOf(opened(4, track(sounds)), 4);
            CHECKS.due("treble of " + sum + " / " + row.length, text.contains(" treble ") ? 1 : 0, sum >= 60 * row.length ? 1 : 0);
        }
        // of all its sounds, those too that are left out of an event
        String seven = textOf(opened(4, track(new int[] {40, 0, 4}, new int[] {41, 0, 4}, new int[] {43, 0, 4}, new int[] {45, 0, 4}, new int[] {47, 0, 4}, new int[] {48, 0, 4},
            new int[] {127, 0, 4}, new int[] {126, 0, 4})), 4);
        CHECKS.due("treble by those that are left out", seven.contains(" treble ") ? 1 : 0, 1);
    }

    /** "SOUNDS with the same place of beginning are one EVENT, at most six TONES (the least ones, each once)". */
    private static void sixTones() {
        int[] tones = {60, 62, 64, 65, 67, 69, 71, 72};
        String[] spelled = {"c4", "d4", "e4", "f4", "g4", "a4"};
        for (int count = 1; count <= 8; count++) {
            int[][] sounds = new int[count][];
            for (int n = 0; n < count; n++) {
                sounds[n] = new int[] {tones[count - 1 - n], 0, 16};
            }
            StringBuilder chord = new StringBuilder();
            for (int n = 0; n < Math.min(count, 6); n++) {
                chord.append(n > 0 ? " " : "").append(spelled[n]);
            }
            String told = count == 1 ? "c4" : "<" + chord + ">";
            dueDown(opened(4, track(sounds)), 4, HEAD + "voice va treble 0 {\n" + told + ":1 |\n}\n");
        }
        dueDown(opened(4, track(new int[] {60, 0, 16}, new int[] {60, 0, 8}, new int[] {60, 0, 4})), 4, HEAD + "voice va treble 0 {\nc4:1 |\n}\n");
        // six of them twice each are still six
        dueDown(opened(4, track(new int[] {60, 0, 16}, new int[] {60, 0, 16}, new int[] {62, 0, 16}, new int[] {62, 0, 16}, new int[] {64, 0, 16}, new int[] {65, 0, 16},
            new int[] {67, 0, 16}, new int[] {69, 0, 16})), 4, HEAD + "voice va treble 0 {\n<c4 d4 e4 f4 g4 a4>:1 |\n}\n");
        // the six are taken first: the least of them, which has no octave, is one
        dueDown(opened(4, track(new int[] {0, 0, 16}, new int[] {60, 0, 16}, new int[] {62, 0, 16}, new int[] {64, 0, 16}, new int[] {65, 0, 16}, new int[] {67, 0, 16}, new int[] {110, 0, 16})), 4,
            HEAD + "voice va treble 0 {\n<c4 d4 e4 f4 g4>:1 |\n}\n");
        // the tones of one event are not those of the next one
        dueDown(opened(4, track(new int[] {0, 0, 4}, new int[] {127, 0, 4}, new int[] {60, 4, 8}, new int[] {62, 4, 8}, new int[] {64, 4, 8}, new int[] {65, 4, 8}, new int[] {67, 4, 8},
            new int[] {69, 4, 8})), 4, HEAD + "voice va treble 0 {\nr:4 <c4 d4 e4 f4 g4 a4>:4 r:2 |\n}\n");
    }

    /** "it ends at the greatest place at which one of these SOUNDS .. ends, at the next EVENT's beginning at most, at least 1 / g behind its own". */
    private static void ends() {
        dueDown(opened(4, track(new int[] {60, 0, 4}, new int[] {64, 0, 12}, new int[] {67, 0, 8})), 4, HEAD + "voice va treble 0 {\n<c4 e4 g4>:2. r:4 |\n}\n");
        // the seventh tone is left out, but ends last
        dueDown(opened(4, track(new int[] {60, 0, 4}, new int[] {62, 0, 4}, new int[] {64, 0, 4}, new int[] {65, 0, 4}, new int[] {67, 0, 4}, new int[] {69, 0, 4}, new int[] {71, 0, 12})), 4,
            HEAD + "voice va treble 0 {\n<c4 d4 e4 f4 g4 a4>:2. r:4 |\n}\n");
        // one beyond all octaves, too
        dueDown(opened(4, track(new int[] {127, 0, 12}, new int[] {60, 0, 4})), 4, HEAD + "voice va treble 0 {\nc4:2. r:4 |\n}\n");
        // up to the next one's beginning at most
        dueDown(opened(4, track(new int[] {60, 0, 12}, new int[] {62, 4, 8})), 4, HEAD + "voice va treble 0 {\nc4:4 d4:4 r:2 |\n}\n");
        dueDown(opened(4, track(new int[] {60, 0, 8}, new int[] {62, 4, 16})), 4, HEAD + "voice va treble 0 {\nc4:4 d4:2. |\n}\n");
        // at least 1 / g
        for (int grid = 4; grid <= 32; grid *= 2) {
            String rest = grid == 4 ? "r:2. " : grid == 8 ? "r:2.. " : grid == 16 ? "r:8. r:2. " : "";
            String want = HEAD + "voice va treble 0 {\nc4:" + grid + " " + rest + "|\n}\n";
            if (grid < 16) {
                dueDown(opened(960, track(new int[] {60, 0, 0})), grid, want);
                dueDown(opened(960, track(new int[] {60, 0, 1})), grid, want);
            } else {
                String text = textOf(opened(960, track(new int[] {60, 0, 1})), grid);
                CHECKS.due("1 / " + grid, text.startsWith(HEAD + "voice va treble 0 {\nc4:" + grid + " ") ? 1 : 0, 1);
            }
        }
        dueDown(opened(96, track(new int[] {60, 0, 0}, new int[] {62, 96, 96}, new int[] {64, 192, 200})), 4, HEAD + "voice va treble 0 {\nc4:4 d4:4 e4:4 r:4 |\n}\n");
    }

    /** "Between EVENTS, ahead of the first and behind the last one, .. there are rests". */
    private static void restsBetween() {
        dueDown(opened(4, track(new int[] {60, 4, 8}, new int[] {62, 12, 16})), 4, HEAD + "voice va treble 0 {\nr:4 c4:4 r:4 d4:4 |\n}\n");
        dueDown(opened(4, track(new int[] {60, 16, 20}, new int[] {62, 20, 24})), 4, HEAD + "voice va treble 0 {\nr:1 |\nc4:4 d4:4 r:2 |\n}\n");
        // a rest from one bar into the next one, and over a whole bar, which is as other rests are
        dueDown(opened(4, track(new int[] {60, 0, 12}, new int[] {62, 36, 48})), 4, HEAD + "voice va treble 0 {\nc4:2. r:4 |\nr:1 |\nr:4 d4:2. |\n}\n");
        // an event of none is a rest of its own
        dueDown(opened(4, track(new int[] {127, 4, 12}, new int[] {62, 12, 16})), 4, HEAD + "voice va treble 0 {\nr:4 r:4 r:4 d4:4 |\n}\n");
    }

    /** "up to the place at which the last of all VOICES ends"; "where its last bar is not full, a rest more till there". */
    private static void upToTheLastOfAll() {
        byte[] quarter = track(new int[] {60, 0, 4});
        byte[] five = track(new int[] {62, 0, 20});
        String one = "treble 0 {\nc4:4 r:2. |\nr:4 r:2. |\n}\n";
        String long1 = "treble 0 {\nd4:1~ |\nd4:4 r:2. |\n}\n";
        for (int last = 0; last < 4; last++) {
            byte[][] tracks = {quarter, quarter, quarter, quarter};
            tracks[last] = five;
            StringBuilder want = new StringBuilder(HEAD);
            for (int n = 0; n < 4; n++) {
                want.append("voice v").append((char) ('a' + n)).append(' ').append(n == last ? long1 : one);
            }
            dueDown(opened(4, tracks), 4, want.toString());
        }
        // the fifth track is no voice: where it ends doesn't count
        dueDown(opened(4, quarter, quarter, quarter, quarter, five), 4, HEAD + ("voice va treble 0 {\nc4:4 r:2. |\n}\nvoice vb treble 0 {\nc4:4 r:2. |\n}\n"
            + "voice vc treble 0 {\nc4:4 r:2. |\n}\nvoice vd treble 0 {\nc4:4 r:2. |\n}\n"));
        // the earlier ones end where the next one begins: the last one's end is its voice's
        dueDown(opened(4, track(new int[] {60, 0, 40}, new int[] {62, 4, 8})), 4, HEAD + "voice va treble 0 {\nc4:4 d4:4 r:2 |\n}\n");
    }

    /** "f = FIFTHS - 5 .. FIFTHS + 6 ..: LETTER 4 * f mod 7, ALTERATION FLOOR of (f + 1) by 7, the OCTAVE .. (if there is none 0 .. 8 .. it is left out". */
    private static void spelling() {
        int[] naturals = {0, 2, 4, 5, 7, 9, 11};
        for (int fifths = -7; fifths <= 7; fifths++) {
            for (int from = 0; from < 128; from += 64) {
                int[][] sounds = new int[64][];
                StringBuilder want = new StringBuilder();
                for (int n = 0; n < 64; n++) {
                    int tone = from + n;
                    sounds[n] = new int[] {tone, n, n + 1};
                    String told = "r";
                    for (int f = fifths - 5; f <= fifths + 6; f++) {
                        if (Math.floorMod(7 * f - tone, 12) != 0) {
                            continue;
                        }
                        int letter = Math.floorMod(4 * f, 7);
                        int alteration = Math.floorDiv(f + 1, 7);
                        for (int octave = 0; octave <= 8; octave++) {
                            if (12 * (octave + 1) + naturals[letter] + alteration == tone) {
                                told = "cdefgab".charAt(letter) + (alteration < 0 ? "b".repeat(-alteration) : "#".repeat(alteration)) + octave;
                            }
                        }
                    }
                    want.append(told).append(":4 ").append(n % 4 == 3 ? "|\n" : "");
                }
                String text = textOf(opened(1, told(fifths, 0, 4, 2, 500000), track(sounds)), 4);
                CHECKS.dueText("tones from " + from + " with " + fifths, text.substring(text.indexOf('{') + 2), want + "}\n");
                CHECKS.due("the key", text.startsWith("key " + fifths + " major\n") ? 1 : 0, 1);
            }
        }
    }

    /** "or an earlier one of the EVENT has its STEP, it is left out, TONES from the least on; an EVENT of none is a rest". */
    private static void stepsLeftOut() {
        dueDown(opened(4, track(new int[] {66, 0, 16}, new int[] {65, 0, 16})), 4, HEAD + "voice va treble 0 {\nf4:1 |\n}\n");
        dueDown(opened(4, track(new int[] {66, 0, 16}, new int[] {67, 0, 16})), 4, HEAD + "voice va treble 0 {\n<f#4 g4>:1 |\n}\n");
        dueDown(opened(4, track(new int[] {61, 0, 16}, new int[] {62, 0, 16}, new int[] {63, 0, 16}, new int[] {64, 0, 16}, new int[] {65, 0, 16}, new int[] {66, 0, 16},
            new int[] {67, 0, 16})), 4, HEAD + "voice va treble 0 {\n<db4 eb4 f4>:1 |\n}\n");
        dueDown(opened(4, track(new int[] {11, 0, 4}, new int[] {12, 4, 8}, new int[] {119, 8, 12}, new int[] {120, 12, 16})), 4, HEAD + "voice va treble 0 {\nr:4 c0:4 b8:4 r:4 |\n}\n");
        // with seven flats 11 is c flat of octave 0, with six sharps 120 is b sharp of octave 8
        dueDown(opened(4, told(-7, 0, 4, 2, 500000), track(new int[] {11, 0, 4}, new int[] {10, 4, 8})), 4, "key -7 major\ntime 4/4\ntempo 120\nvoice va bass 0 {\ncb0:4 r:4 r:2 |\n}\n");
        dueDown(opened(4, told(6, 1, 4, 2, 500000), track(new int[] {120, 0, 4}, new int[] {121, 4, 8})), 4, "key 6 minor\ntime 4/4\ntempo 120\nvoice va treble 0 {\nb#8:4 r:4 r:2 |\n}\n");
    }

    /** "key, a blank, - if there are FIFTHS below 0, these, .. time, a blank, n, /, d, 10; tempo, a blank, it, 10". */
    private static void heads() {
        for (int fifths = -7; fifths <= 7; fifths++) {
            int minor = Math.floorMod(fifths, 2);
            int above = Math.floorMod(fifths - 1, 12) + 1;
            int log = Math.floorMod(fifths, 4) + 1;
            int micro = 60000000 / (fifths == -7 ? 20 : fifths == 7 ? 300 : 100 + fifths);
            String want = "key " + fifths + (minor == 0 ? " major" : " minor") + "\ntime " + above + "/" + (1 << log) + "\ntempo " + 60000000 / micro + "\nvoice va treble 0 {\n";
            String text = textOf(opened(4, told(fifths, minor, above, log, micro), track(new int[] {60, 0, 4})), 32);
            CHECKS.dueText("head", text.substring(0, Math.min(text.length(), want.length())), want);
        }
        for (int above = 1; above <= 12; above++) {
            for (int log = 1; log <= 4; log++) {
                Script script = opened(4, told(0, 0, above, log, 600000), track(new int[] {60, 0, 4})).then(house -> house.down(32)).then(StaveHouse::again).then(house -> house.read(0));
                CHECKS.due("n", script.ask(house -> house.look(0, 4)), above);
                CHECKS.due("d", script.ask(house -> house.look(0, 5)), 1 << log);
                CHECKS.due("tempo", script.ask(house -> house.look(0, 6)), 100);
                CHECKS.due("its first event", script.ask(house -> house.pitch(0, 0, 0, 0, 0)), 28);
            }
        }
    }

    /** "the NOTES of Part IV that come of its EVENTS, a blank behind each .. ~ but of the EVENT's last one and of rests; .. behind a bar's last one | and 10". */
    private static void notesOfPartFour() {
        // across the middle of the bar, in the first bar and in later ones
        dueDown(opened(4, track(new int[] {60, 4, 12}, new int[] {62, 12, 24}, new int[] {64, 40, 44})), 8, HEAD + "voice va treble 0 {\nr:4 c4:4~ c4:4 d4:4~ |\nd4:2 r:2 |\nr:2 e4:4 r:4 |\n}\n");
        dueDown(opened(4, track(new int[] {60, 20, 28}, new int[] {62, 36, 44})), 4, HEAD + "voice va treble 0 {\nr:1 |\nr:4 c4:4~ c4:4 r:4 |\nr:4 d4:4~ d4:4 r:4 |\n}\n");
        // chords go on, too
        dueDown(opened(4, track(new int[] {60, 12, 20}, new int[] {64, 12, 20})), 4, HEAD + "voice va treble 0 {\nr:2. <c4 e4>:4~ |\n<c4 e4>:4 r:2. |\n}\n");
        // points, and the least values
        dueDown(opened(8, told(0, 0, 3, 2, 500000), track(new int[] {60, 0, 14}, new int[] {62, 14, 15}, new int[] {64, 15, 24})), 32,
            "key 0 major\ntime 3/4\ntempo 120\nvoice va treble 0 {\nc4:4.. d4:32 e4:32~ e4:4 |\n}\n");
        // behind each bar's last one, and nothing behind the last bar
        dueDown(opened(1, told(0, 0, 1, 2, 500000), track(new int[] {60, 0, 3})), 4, "key 0 major\ntime 1/4\ntempo 120\nvoice va treble 0 {\nc4:4~ |\nc4:4~ |\nc4:4 |\n}\n");
        dueDown(opened(1, told(0, 0, 2, 2, 500000), track(new int[] {60, 1, 2}, new int[] {62, 4, 5})), 4, "key 0 major\ntime 2/4\ntempo 120\nvoice va treble 0 {\nr:4 c4:4 |\nr:2 |\nd4:4 r:4 |\n}\n");
        // all of it is a right text, whose events have the same notes
        Script again = opened(8, told(-3, 1, 6, 3, 700000), track(new int[] {60, 3, 17}, new int[] {63, 3, 20}, new int[] {62, 21, 50}, new int[] {59, 61, 62})).then(house -> house.down(32))
            .then(StaveHouse::again).then(house -> house.read(0));
        CHECKS.due("read", again.ask(house -> house.look(0, 0)), 1);
        CHECKS.due("notes and events", again.ask(house -> house.voice(0, 0, 3)), again.ask(house -> house.voice(0, 0, 2)));
    }

    /** "It has NO ROOM .. with more than 100 bars". */
    private static void mostBars() {
        for (int above = 1; above <= 12; above++) {
            for (int log = 1; log <= 4; log++) {
                // a tick is a 64th: a bar has so many
                int bar = above * 64 >> log;
                for (int more = -2; more <= 2; more += 2) {
                    int end = 100 * bar + more;
                    byte[] far = chunk(Checks.join(delta(end - 2), Checks.bytes(144, 60, 1, 2, 60, 0)));
                    Script script = opened(16, told(0, 0, above, log, 500000), far).then(house -> house.down(32));
                    long size = script.ask(house -> house.down(32));
                    if (above == 12 && log == 1) {
                        CHECKS.due("a hundred bars of six rests each are more than 3000 bytes", size, -2);
                    } else if (more > 0) {
                        CHECKS.due("more than a hundred bars of " + above + ", " + log, size, -2);
                        CHECKS.due("nothing is written", script.ask(house -> house.out(0)), -1);
                    } else {
                        CHECKS.due("a hundred bars of " + above + ", " + log, size > 0 ? 1 : 0, 1);
                    }
                }
            }
        }
        Script far = opened(1, chunk(Checks.bytes(255, 255, 255, 127, 255, 1, 0, 255, 255, 255, 127, 144, 60, 1))).then(house -> house.down(4));
        CHECKS.due("very far", far.ask(house -> house.down(32)), -2);
    }

    /** An eighth, 239 quarters off the beat, each told by two notes that are tied, an eighth; so many of the quarters, and the first eighth, are flat. */
    private static Script manyBytes(int flats, boolean firstIsFlat) {
        ByteArrayOutputStream out = new ByteArrayOutputStream();
        out.writeBytes(Checks.bytes(0, 144, firstIsFlat ? 61 : 60, 1));
        for (int n = 0; n < 239; n++) {
            out.writeBytes(Checks.bytes(n == 0 ? 1 : 2, n < flats ? 61 : 60, 1));
        }
        out.writeBytes(Checks.bytes(2, 60, 1, 1, 255, 47, 0));
        return opened(2, chunk(out.toByteArray())).then(house -> house.down(8));
    }

    /** "It has NO ROOM above 3000 bytes". */
    private static void mostBytes() {
        // the head and the voice's, 60 bars' ends, eighths of 5 and 6 bytes, pairs of 11 and 13
        int least = HEAD.length() + "voice va treble 0 {\n}\n".length() + 60 * 2 + 5 + 5 + 239 * 11;
        int flats = (3000 - least) / 2;
        CHECKS.due("an even number is left", least + 2 * flats, 3000);
        Script less = manyBytes(flats - 1, true);
        CHECKS.due("2999", less.ask(house -> house.down(8)), 2999);
        Script most = manyBytes(flats, false);
        CHECKS.due("3000", most.ask(house -> house.down(8)), 3000);
        CHECKS.due("its last byte", most.ask(house -> house.out(2999)), 10);
        CHECKS.due("none more", most.ask(house -> house.out(3000)), -1);
        CHECKS.due("it comes again", most.ask(StaveHouse::again), 3000);
        CHECKS.due("its notes are more than 200 events", most.copy().then(StaveHouse::again).ask(house -> house.read(0) % 16), 8);
        Script more = manyBytes(flats, true);
        CHECKS.due("3001", more.ask(house -> house.down(8)), -2);
        CHECKS.due("nothing is written", more.ask(house -> house.out(0)), -1);
        CHECKS.due("nothing comes again", more.ask(StaveHouse::again), -1);
        CHECKS.due("3002", manyBytes(flats + 1, false).ask(house -> house.down(8)), -2);
        CHECKS.due("by another grid it has room", more.ask(house -> house.down(4)) > 0 ? 1 : 0, 1);
    }

    /** "NONE, and nothing is written, without a file, SOUNDS, or such a GRID; -2 .. (what was written latest is nothing then)". */
    private static void refused() {
        StaveHouse house = CHECKS.house("voice v treble 0 {c4}");
        house.perform(0);
        int size = house.file(0);
        CHECKS.due("without a file", house.down(4), -1);
        CHECKS.due("what was written stays", house.out(size - 1), 0);
        Checks.put(house, Checks.join(Checks.bytes('M', 'T', 'h', 'd', 0, 0, 0, 6, 0, 1, 0, 1, 0, 1), chunk(new byte[0])));
        CHECKS.due("open()", house.open(), 0);
        CHECKS.due("without sounds", house.down(4), -1);
        CHECKS.due("what was written stays", house.out(size - 1), 0);
        Checks.put(house, Checks.join(Checks.bytes('M', 'T', 'h', 'd', 0, 0, 0, 6, 0, 1, 0, 1, 0, 1), track(new int[] {60, 0, 401})));
        CHECKS.due("open()", house.open(), 0);
        CHECKS.due("without such a grid", house.down(5), -1);
        CHECKS.due("what was written stays", house.out(size - 1), 0);
        CHECKS.due("no room", house.down(4), -2);
        CHECKS.due("nothing is written", house.out(0), -1);
        CHECKS.due("nothing comes again", house.again(), -1);
        CHECKS.due("the file stays", house.track(7), 1);
        CHECKS.due("without such a grid", house.down(0), -1);
        CHECKS.due("the other piece's file", house.file(0), size);
        CHECKS.due("is written", house.out(0), 'M');
    }
}
