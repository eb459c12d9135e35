/** Promises 23 and 24: play, sample; the samples are reckoned anew here, one by one, as the document tells them. */
public final class PlayTest {
    private static final Checks CHECKS = new Checks();
    private static final long[] TURNS = {2247346494L, 2380980670L, 2522561148L, 2672560440L, 2831479154L, 2999847666L,
        3178227890L, 3367215155L, 3567440188L, 3779571220L, 4004316221L, 4242425254L};
    private static final int[] STEPS = {7, 8, 9, 10, 11, 12, 13, 14, 16, 17, 19, 21, 23, 25, 28, 31, 34, 37, 41, 45, 50, 55, 60, 66,
        73, 80, 88, 97, 107, 118, 130, 143, 157, 173, 190, 209, 230, 253, 279, 307, 337, 371, 408, 449, 494, 544, 598, 658, 724, 796,
        876, 963, 1060, 1166, 1282, 1411, 1552, 1707, 1878, 2066, 2272, 2499, 2749, 3024, 3327, 3660, 4026, 4428, 4871, 5358, 5894,
        6484, 7132, 7845, 8630, 9493, 10442, 11487, 12635, 13899, 15289, 16818, 18500, 20350, 22385, 24623, 27086, 29794, 32767};

    public static void main(String[] args) {
        byHand();
        for (int number = 0; number < 4; number++) {
            byFormula("voice v treble " + number + " {c4:16 b##8:32' cbb0:32^ r:16 g#5:8%}", 3500, 137);
        }
        byFormula("tempo 300 voice a treble 0 {!fff c4:16 c4:32 c4:32} voice b bass 1 {!fff <c4 e4 g4 c5 e5 g5>:8}", 2000, 1000);
        byFormula("tempo 20 voice a treble 2 {slow 1/4{c8:32 d8 e8 r} r:16} voice b bass 3 {c3:32. r:32.}", 1500, 250);
        byFormula("tempo 60 voice v treble 2 {c4}", 4000, 1000);
        loudest();
        parts();
        behindTheLast();
        wrongAsked();
        CHECKS.finish();
    }

    private static StaveHouse performed(String text) {
        StaveHouse house = CHECKS.house(text);
        CHECKS.due("performs " + text, house.perform(0) >= 0 ? 1 : 0, 1);
        return house;
    }

    private static void byHand() {
        StaveHouse house = performed("voice v treble 0 {c4}");
        CHECKS.due("play(0, 3)", house.play(0, 3), 3);
        // 96 * 6 * 72 / 1024 = 40, the half of it; then 96 * 12 * 72 / 1024 = 81
        int[] heard = {0, 20, 50};
        int[] codes = {0, 7, 7};
        for (int i = 0; i < 3; i++) {
            CHECKS.due("heard " + i, house.sample(0, i, 0), heard[i]);
            CHECKS.due("code " + i, house.sample(0, i, 1), codes[i]);
        }
    }

    /** Each stroke that begins, with the nearest one behind it that ends this tone in this voice. */
    private static int[][] soundsOf(StaveHouse house) {
        int strokes = house.look(0, 12);
        boolean[] used = new boolean[strokes];
        int[][] sounds = new int[strokes / 2][];
        int count = 0;
        for (int i = 0; i < strokes; i++) {
            if (house.stroke(0, i, 3) == 0) {
                continue;
            }
            for (int j = i + 1; j < strokes; j++) {
                boolean same = house.stroke(0, j, 1) == house.stroke(0, i, 1) && house.stroke(0, j, 2) == house.stroke(0, i, 2);
                if (same && house.stroke(0, j, 3) == 0 && !used[j]) {
                    used[j] = true;
                    int number = house.voice(0, house.stroke(0, i, 1), 1);
                    sounds[count] = new int[] {house.stroke(0, i, 0), house.stroke(0, j, 0), house.stroke(0, i, 2), house.stroke(0, i, 3),
                        number};
                    count++;
                    break;
                }
            }
        }
        return sounds;
    }

    private static int rise(int x) {
        return x < 40 ? 256 * x / 40 : Math.max(128, 256 - (x - 40) / 16);
    }

    private static int given(int[] sound, int tempo, int s) {
        int a = (int) ((long) sound[0] * 5000 / tempo);
        int z = (int) ((long) sound[1] * 5000 / tempo);
        if (s < a || s > z + 399) {
            return 0;
        }
        int x = s - a;
        int u = z - a;
        int level = x < u ? rise(x) : (u == 0 ? 0 : rise(u)) * (400 - (x - u)) / 400;
        int octave = sound[2] / 12;
        long turn = TURNS[sound[2] % 12];
        for (int n = octave; n < 9; n++) {
            turn /= 2;
        }
        for (int n = 9; n < octave; n++) {
            turn = turn * 2 % (1L << 32);
        }
        int h = (int) (x * turn % (1L << 32) >> 24);
        int w = h < 128 ? 2 * h - 128 : 383 - 2 * h;
        int[] waves = {h < 128 ? 96 : -96, h - 128, w, w * (128 - Math.abs(w)) / 32};
        return waves[sound[4]] * level * sound[3] / 1024;
    }

    private static void byFormula(String text, int samples, int atOnce) {
        StaveHouse house = performed(text);
        int[][] sounds = soundsOf(house);
        int tempo = house.look(0, 6);
        int y = 0;
        int predicted = 0;
        int index = 0;
        for (int s = 0; s < samples; s++) {
            if (s % atOnce == 0) {
                CHECKS.due("play", house.play(0, atOnce), s + atOnce);
            }
            int m = 0;
            for (int[] sound : sounds) {
                m += given(sound, tempo, s);
            }
            m = Math.max(-32768, Math.min(32767, m));
            y += (m - y) / 2;
            int d = Math.abs(y - predicted);
            int code = y < predicted ? 8 : 0;
            int step = STEPS[index];
            int gone = step / 8;
            if (d >= step) {
                code += 4;
                d -= step;
                gone += step;
            }
            if (d >= step / 2) {
                code += 2;
                d -= step / 2;
                gone += step / 2;
            }
            if (d >= step / 4) {
                code += 1;
                gone += step / 4;
            }
            predicted = Math.max(-32768, Math.min(32767, code >= 8 ? predicted - gone : predicted + gone));
            index = Math.max(0, Math.min(88, index + new int[] {-1, -1, -1, -1, 2, 4, 6, 8}[code % 8]));
            CHECKS.due("heard " + s + " of " + text, house.sample(0, s % atOnce, 0), y);
            CHECKS.due("code " + s + " of " + text, house.sample(0, s % atOnce, 1), code);
        }
    }

    /** So loud that samples and what is predicted are cut, and the greatest steps are taken. */
    private static void loudest() {
        StringBuilder text = new StringBuilder("tempo 20 ");
        for (String word : new String[] {"a", "b", "c", "d"}) {
            text.append("voice ").append(word).append(" treble 0 {!fff <c3 c#4 d5 c6 c7 c8>:32^ <c2 c3 c4 c5 c6 c7>^}");
        }
        byFormula(text.toString(), 1900, 1000);
        byFormula(text.toString().replace("treble 0", "treble 1"), 1900, 1000);
    }

    private static void parts() {
        StaveHouse one = performed("voice v treble 3 {c4:8 <d4 g4>}");
        StaveHouse other = performed("voice v treble 3 {c4:8 <d4 g4>}");
        one.play(0, 900);
        int[] whole = new int[900];
        for (int i = 0; i < 900; i++) {
            whole[i] = one.sample(0, i, 0);
        }
        other.play(0, 300);
        CHECKS.due("look at the samples", other.look(0, 13), 300);
        other.play(0, 0);
        CHECKS.due("the latest play() made none", other.sample(0, 0, 0), Integer.MIN_VALUE);
        CHECKS.due("600", other.play(0, 600), 900);
        for (int i = 0; i < 600; i++) {
            CHECKS.due("the same in parts", other.sample(0, i, 0), whole[300 + i]);
        }
        CHECKS.due("performed anew", other.perform(0), 3);
        CHECKS.due("no samples since then", other.look(0, 13), 0);
        CHECKS.due("from the beginning", other.play(0, 50), 50);
        for (int i = 0; i < 50; i++) {
            CHECKS.due("from the beginning", other.sample(0, i, 0), whole[i]);
        }
        CHECKS.due("not behind them", other.sample(0, 50, 0), Integer.MIN_VALUE);
    }

    private static void behindTheLast() {
        StaveHouse house = performed("tempo 300 voice v treble 1 {c4:32}");
        int made = 0;
        for (int n = 0; n < 3; n++) {
            made += 1000;
            CHECKS.due("samples go on", house.play(0, 1000), made);
        }
        CHECKS.due("and are all but still", Math.abs(house.sample(0, 999, 0)) <= 1 ? 1 : 0, 1);
        StaveHouse rest = performed("voice v treble 1 {r}");
        CHECKS.due("no sound at all", rest.play(0, 7), 7);
        CHECKS.due("is 0", rest.sample(0, 6, 0), 0);
    }

    private static void wrongAsked() {
        StaveHouse house = CHECKS.house("voice v treble 0 {c4}");
        CHECKS.due("play ahead of perform()", house.play(0, 1), -1);
        CHECKS.due("sample ahead of perform()", house.sample(0, 0, 0), Integer.MIN_VALUE);
        house.perform(0);
        CHECKS.due("sample ahead of play()", house.sample(0, 0, 0), Integer.MIN_VALUE);
        CHECKS.due("play(0, 1000)", house.play(0, 1000), 1000);
        CHECKS.due("play(0, -1)", house.play(0, -1), -1);
        CHECKS.due("play(0, 1001)", house.play(0, 1001), -1);
        CHECKS.due("play(1, 1)", house.play(1, 1), -1);
        CHECKS.due("play(2, 1)", house.play(2, 1), -1);
        CHECKS.due("they are there still", house.sample(0, 999, 0) == Integer.MIN_VALUE ? 0 : 1, 1);
        CHECKS.due("sample, 2", house.sample(0, 0, 2), Integer.MIN_VALUE);
        CHECKS.due("sample, -1", house.sample(0, 0, -1), Integer.MIN_VALUE);
        CHECKS.due("sample 1000", house.sample(0, 1000, 0), Integer.MIN_VALUE);
        CHECKS.due("sample -1", house.sample(0, -1, 0), Integer.MIN_VALUE);
        CHECKS.due("sample of piece 1", house.sample(1, 0, 0), Integer.MIN_VALUE);
        CHECKS.due("sample of piece 2", house.sample(2, 0, 0), Integer.MIN_VALUE);
    }
}
