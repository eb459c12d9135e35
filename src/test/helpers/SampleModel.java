import java.util.ArrayList;
import java.util.List;
import java.util.function.ToLongFunction;

/** Part VII reckoned anew, sample by sample, from the strokes of a performance. */
public final class SampleModel {
    private static final long[] TURNS = {2247346494L, 2380980670L, 2522561148L, 2672560440L, 2831479154L, 2999847666L,
        3178227890L, 3367215155L, 3567440188L, 3779571220L, 4004316221L, 4242425254L};
    private static final int[] STEPS = {7, 8, 9, 10, 11, 12, 13, 14, 16, 17, 19, 21, 23, 25, 28, 31, 34, 37, 41, 45, 50, 55, 60, 66,
        73, 80, 88, 97, 107, 118, 130, 143, 157, 173, 190, 209, 230, 253, 279, 307, 337, 371, 408, 449, 494, 544, 598, 658, 724, 796,
        876, 963, 1060, 1166, 1282, 1411, 1552, 1707, 1878, 2066, 2272, 2499, 2749, 3024, 3327, 3660, 4026, 4428, 4871, 5358, 5894,
        6484, 7132, 7845, 8630, 9493, 10442, 11487, 12635, 13899, 15289, 16818, 18500, 20350, 22385, 24623, 27086, 29794, 32767};
    private static final int[] MOVES = {-1, -1, -1, -1, 2, 4, 6, 8};

    public final int[] heard;
    public final int[] codes;

    /** The first samples of a piece at place 0 that the script has performed. */
    public SampleModel(Script script, int samples) {
        heard = new int[samples];
        codes = new int[samples];
        int[][] sounds = soundsOf(script);
        int tempo = (int) script.ask(house -> house.look(0, 6));
        int y = 0;
        int predicted = 0;
        int index = 0;
        for (int s = 0; s < samples; s++) {
            int m = 0;
            for (int[] sound : sounds) {
                m += given(sound, tempo, s);
            }
            m = Math.max(-32768, Math.min(32767, m));
            y += (m - y) / 2;
            int d = Math.abs(y - predicted);
            int code = y < predicted ? 8 : 0;
            int step = STEPS[index];
            int gone = step / 8;
            if (d >= step) {
                code += 4;
                d -= step;
                gone += step;
            }
            if (d >= step / 2) {
                code += 2;
                d -= step / 2;
                gone += step / 2;
            }
            if (d >= step / 4) {
                code += 1;
                gone += step / 4;
            }
            predicted = Math.max(-32768, Math.min(32767, code >= 8 ? predicted - gone : predicted + gone));
            index = Math.max(0, Math.min(88, index + MOVES[code % 8]));
            heard[s] = y;
            codes[s] = code;
        }
    }

    /** Each stroke that begins, with the nearest one behind it that ends this tone in this voice: from, to, tone, force, number. */
    private static int[][] soundsOf(Script script) {
        List<ToLongFunction<StaveHouse>> questions = new ArrayList<>();
        long strokes = script.ask(house -> house.look(0, 12));
        for (int n = 0; n < 4 * strokes; n++) {
            int at = n;
            questions.add(house -> house.stroke(0, at / 4, at % 4));
        }
        long[] told = script.ask(questions);
        boolean[] used = new boolean[(int) strokes];
        List<int[]> sounds = new ArrayList<>();
        for (int i = 0; i < told.length; i += 4) {
            for (int j = i + 4; j < told.length && told[i + 3] != 0; j += 4) {
                if (told[j + 3] == 0 && told[j + 1] == told[i + 1] && told[j + 2] == told[i + 2] && !used[j / 4]) {
                    used[j / 4] = true;
                    int voice = (int) told[i + 1];
                    int number = (int) script.ask(house -> house.voice(0, voice, 1));
                    sounds.add(new int[] {(int) told[i], (int) told[j], (int) told[i + 2], (int) told[i + 3], number});
                    break;
                }
            }
        }
        return sounds.toArray(new int[0][]);
    }

    private static int rise(int x) {
        return x < 40 ? 256 * x / 40 : Math.max(128, 256 - (x - 40) / 16);
    }

    private static int given(int[] sound, int tempo, int s) {
        int a = (int) ((long) sound[0] * 5000 / tempo);
        int z = (int) ((long) sound[1] * 5000 / tempo);
        if (s < a || s > z + 399) {
            return 0;
        }
        int x = s - a;
        int u = z - a;
        int level = x < u ? rise(x) : (u == 0 ? 0 : rise(u)) * (400 - (x - u)) / 400;
        int octave = sound[2] / 12;
        long turn = TURNS[sound[2] % 12];
        for (int n = octave; n < 9; n++) {
            turn /= 2;
        }
        for (int n = 9; n < octave; n++) {
            turn = turn * 2 % (1L << 32);
        }
        int h = (int) (x * turn % (1L << 32) >> 24);
        int w = h < 128 ? 2 * h - 128 : 383 - 2 * h;
        int[] waves = {h < 128 ? 96 : -96, h - 128, w, w * (128 - Math.abs(w)) / 32};
        return waves[sound[4]] * level * sound[3] / 1024;
    }
}
