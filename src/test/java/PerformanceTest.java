/** Promises 14 to 17: perform, stroke, file, out. */
public final class PerformanceTest {
    private static final Checks CHECKS = new Checks();

    public static void main(String[] args) {
        endsOfSounds();
        forces();
        ties();
        trills();
        ticks();
        order();
        tooMany();
        files();
        keys();
        wrongAsked();
        CHECKS.finish();
    }

    private static StaveHouse performed(String text, int sounds) {
        StaveHouse house = CHECKS.house(text);
        CHECKS.due("perform of " + text, house.perform(0), sounds);
        CHECKS.due("sounds of " + text, house.look(0, 11), sounds);
        CHECKS.due("strokes of " + text, house.look(0, 12), 2 * sounds);
        return house;
    }

    /** Of each stroke tick, voice, tone and force. */
    private static void dueStrokes(String text, long... want) {
        StaveHouse house = performed(text, want.length / 8);
        long[] got = new long[4 * house.look(0, 12)];
        for (int i = 0; i < got.length; i++) {
            got[i] = house.stroke(0, i / 4, i % 4);
        }
        CHECKS.dueRow(text, got, want);
    }

    private static void endsOfSounds() {
        dueStrokes("voice v treble 0 {c4}", 0, 0, 60, 72, 84, 0, 60, 0);
        dueStrokes("voice v treble 0 {c4-}", 0, 0, 60, 72, 96, 0, 60, 0);
        dueStrokes("voice v treble 0 {c4'}", 0, 0, 60, 72, 48, 0, 60, 0);
        dueStrokes("voice v treble 0 {c4-'}", 0, 0, 60, 72, 48, 0, 60, 0);
        dueStrokes("voice v treble 0 {c4( d4'  e4)}", 0, 0, 60, 72, 96, 0, 60, 0, 96, 0, 62, 72, 144, 0, 62, 0, 192, 0, 64,
            72, 276, 0, 64, 0);
        dueStrokes("voice v treble 0 {c4( d4)( e4)}", 0, 0, 60, 72, 96, 0, 60, 0, 96, 0, 62, 72, 192, 0, 62, 0, 192, 0, 64,
            72, 276, 0, 64, 0);
        // short ones: 3 ticks, 1 tick, no tick at all
        dueStrokes("voice v treble 0 {slow 1/4{c4:32'}}", 0, 0, 60, 72, 1, 0, 60, 0);
        dueStrokes("voice v treble 0 {slow 1/4{c4:32}}", 0, 0, 60, 72, 3, 0, 60, 0);
        dueStrokes("voice v treble 0 {[3/1:slow 1/4{c4:32' c4' c4'}]}", 0, 0, 60, 72, 1, 0, 60, 0, 1, 0, 60, 72, 2, 0, 60, 0,
            2, 0, 60, 72, 3, 0, 60, 0);
        StaveHouse none = CHECKS.house("voice v treble 0 {[9/1:slow 1/4{c4:32 d4 e4 f4 g4 a4 b4 c5 d5}]}");
        CHECKS.due("sounds of no ticks are none", none.perform(0), 3);
        dueStrokes("voice v treble 0 {r:1}");
    }

    private static void forces() {
        String[] louds = {"ppp", "pp", "p", "mp", "mf", "f", "ff", "fff"};
        int[] forces = {20, 33, 46, 59, 72, 85, 98, 111};
        for (int i = 0; i < 8; i++) {
            dueStrokes("voice v treble 0 {!" + louds[i] + " c4}", 0, 0, 60, forces[i], 84, 0, 60, 0);
            dueStrokes("voice v treble 0 {!" + louds[i] + " c4^}", 0, 0, 60, forces[i] + 15, 84, 0, 60, 0);
        }
        dueStrokes("voice v treble 0 {!p c4~ !f c4^}", 0, 0, 60, 46, 168, 0, 60, 0);
        dueStrokes("voice v treble 0 {!p c4~^ !f c4}", 0, 0, 60, 61, 168, 0, 60, 0);
    }

    private static void ties() {
        dueStrokes("voice v treble 0 {c4~ c4~ c4-}", 0, 0, 60, 72, 288, 0, 60, 0);
        dueStrokes("voice v treble 0 {c4-~ c4'}", 0, 0, 60, 72, 96, 0, 60, 0);
        dueStrokes("voice v treble 0 {<c4 e4>~ <c4 f4>~ <d4 f4>}", 0, 0, 60, 72, 0, 0, 64, 72, 84, 0, 64, 0, 96, 0, 65, 72,
            168, 0, 60, 0, 192, 0, 62, 72, 264, 0, 65, 0, 276, 0, 62, 0);
        // not the same pitch, though the same tone
        dueStrokes("voice v treble 0 {<b#3 d4>~ <c4 d4>}", 0, 0, 60, 72, 0, 0, 62, 72, 84, 0, 60, 0, 96, 0, 60, 72, 168, 0, 62,
            0, 180, 0, 60, 0);
    }

    private static void trills() {
        dueStrokes("voice v treble 0 {c4:16.%'}", 0, 0, 60, 72, 12, 0, 60, 0, 12, 0, 62, 72, 24, 0, 62, 0, 24, 0, 60, 72, 36, 0,
            60, 0);
        dueStrokes("key -3 major voice v treble 0 {!p d4:16..%^}", 0, 0, 62, 61, 12, 0, 62, 0, 12, 0, 63, 61, 24, 0, 63, 0, 24, 0,
            62, 61, 36, 0, 62, 0, 36, 0, 63, 61, 42, 0, 63, 0);
        dueStrokes("voice v treble 0 {b8:16%}", 0, 0, 119, 72, 12, 0, 119, 0, 12, 0, 119, 72, 24, 0, 119, 0);
        dueStrokes("voice v treble 0 {<c4 e4>:16%}", 0, 0, 60, 72, 0, 0, 64, 72, 21, 0, 60, 0, 21, 0, 64, 0);
        dueStrokes("voice v treble 0 {c4:16%~ c4%}", 0, 0, 60, 72, 42, 0, 60, 0);
        dueStrokes("voice v treble 0 {c4:32%}", 0, 0, 60, 72, 12, 0, 60, 0);
    }

    private static void ticks() {
        StaveHouse house = performed("voice v treble 0 {[7/4:c4:4 d4 e4 f4 g4 a4 b4]}", 7);
        int[] begins = {0, 54, 109, 164, 219, 274, 329};
        int at = 0;
        for (int i = 0; i < 14; i++) {
            if (house.stroke(0, i, 3) != 0) {
                CHECKS.due("begins " + at, house.stroke(0, i, 0), begins[at]);
                at++;
            }
        }
        StaveHouse late = performed("time 12/2 voice v treble 0 {repeat 4{repeat 4{repeat 3{slow 8/1{r:1}}}} c4:2}", 1);
        CHECKS.due("a late tick", late.stroke(0, 0, 0), 48 * 8 * 384);
    }

    private static void order() {
        // at one tick ends first, then by voices, then by tones
        dueStrokes("voice a treble 0 {<e4 c4>- <c5 c4>-} voice b bass 0 {d3- b2-}", 0, 0, 60, 72, 0, 0, 64, 72, 0, 1, 50, 72, 96,
            0, 60, 0, 96, 0, 64, 0, 96, 1, 50, 0, 96, 0, 60, 72, 96, 0, 72, 72, 96, 1, 47, 72, 192, 0, 60, 0, 192, 0, 72, 0, 192,
            1, 47, 0);
    }

    private static void tooMany() {
        String most = "voice v treble 0 {" + "c4:1% ".repeat(62) + "c4:2%";
        StaveHouse house = performed(most + " r:2}", 2000);
        CHECKS.due("the last stroke", house.stroke(0, 3999, 0), 62 * 384 + 192);
        CHECKS.due("no more", house.stroke(0, 4000, 0), -1);
        StaveHouse more = CHECKS.house(most + " c4:2}");
        CHECKS.due("one more sound", more.perform(0), -2);
        CHECKS.due("nothing changes", more.look(0, 11), 0);
        CHECKS.due("nothing to write", more.file(0), -1);
        CHECKS.due("nothing to play", more.play(0, 1), -1);
        CHECKS.due("no stroke", more.stroke(0, 0, 0), -1);
    }

    private static void files() {
        StaveHouse house = performed("key -3 minor time 6/8 tempo 90 voice ab treble 2 {c4:2.} voice c bass 1 {<c3 eb3>:4. r}", 3);
        byte[] want = Checks.join(
            Checks.bytes('M', 'T', 'h', 'd', 0, 0, 0, 6, 0, 1, 0, 3, 0, 96),
            Checks.bytes('M', 'T', 'r', 'k', 0, 0, 0, 25, 0, 255, 88, 4, 6, 3, 24, 8, 0, 255, 89, 2, 253, 1),
            Checks.bytes(0, 255, 81, 3, 666666 >> 16, 666666 >> 8, 666666, 0, 255, 47, 0),
            Checks.bytes('M', 'T', 'r', 'k', 0, 0, 0, 21, 0, 255, 3, 2, 'a', 'b', 0, 192, 2),
            Checks.bytes(0, 144, 60, 72, 0x81, 0x7c, 60, 0, 0, 255, 47, 0),
            Checks.bytes('M', 'T', 'r', 'k', 0, 0, 0, 25, 0, 255, 3, 1, 'c', 0, 193, 1),
            Checks.bytes(0, 145, 48, 72, 0, 51, 72, 126, 48, 0, 0, 51, 0, 0, 255, 47, 0));
        CHECKS.due("file(0)", house.file(0), want.length);
        for (int i = 0; i < want.length; i++) {
            CHECKS.due("out(" + i + ")", house.out(i), want[i] & 255);
        }
        CHECKS.due("out behind it", house.out(want.length), -1);
        CHECKS.due("out(-1)", house.out(-1), -1);
        CHECKS.due("file(1)", house.file(1), -1);
        CHECKS.due("file(2)", house.file(2), -1);
        CHECKS.due("what was written stays", house.out(0), 'M');
        StaveHouse twice = performed("voice v treble 0 {c4:1 r:1 slow 6/1{r:1} slow 8/1{r:1} slow 8/1{r:1} slow 8/1{r:1} slow 8/1{r:1}"
            + " slow 4/1{r:1} d4}", 2);
        CHECKS.due("file with a delta of three bytes", twice.file(0), 47 + 8 + 5 + 3 + 4 + 4 + 5 + 4 + 4);
        CHECKS.due("its first byte", twice.out(47 + 8 + 5 + 3 + 4 + 4), 0x80 | (44 * 384 - 336) >> 14);
    }

    private static void keys() {
        CHECKS.due("c major", CHECKS.house("voice v treble 0 {c4 e4 g4 c5 d4 f4 a4 b4 c5:1}").look(0, 9), 0);
        CHECKS.due("d minor", CHECKS.house("voice v treble 0 {d4:1 f4 a4 d5:2 a4:1}").look(0, 9), 14);
        // each of these would be another key, were one of the weights one more or less
        int[][] near = {
            {19, 7, 24, 1, 19, 9, 3}, {4, 6, 10, 4, 30}, {18, 2, 2, 6, 40, 0, 20, 5, 33}, {22, 10, 40, 6, 31, 3, 7},
            {11, 11, 34, 5, 33}, {17, 0, 10, 5, 16, 1, 21}, {6, 8, 12, 6, 25}, {0, 5, 10, 0, 26, 3, 2},
            {11, 4, 9, 1, 36, 11, 38}, {23, 1, 33, 6, 35, 11, 27, 7, 29}, {12, 0, 23, 3, 34, 10, 19, 11, 30},
            {12, 6, 40, 4, 27, 3, 23, 0, 38}, {11, 0, 13, 6, 12, 11, 34}, {14, 2, 34, 5, 13, 8, 32, 7, 27},
            {14, 5, 19, 9, 22, 2, 8, 11, 17}, {19, 7, 31, 10, 10, 0, 29, 6, 24}, {22, 1, 33, 10, 12},
            {6, 11, 30, 10, 19, 6, 34}, {22, 3, 5, 4, 24, 10, 39, 8, 23}, {0, 7, 24, 8, 18, 0, 35, 9, 18},
            {7, 7, 36, 10, 20, 11, 34}, {18, 7, 17, 6, 40, 11, 13, 0, 24}, {11, 11, 40, 4, 9, 3, 20, 9, 31},
            {4, 6, 11, 9, 20, 4, 34, 3, 39}, {22, 6, 6, 10, 30, 2, 5}, {17, 5, 33, 1, 30, 4, 20, 6, 7},
            {7, 2, 13, 7, 19, 10, 2}};
        String[] scale = {"c4- ", "c#4- ", "d4- ", "d#4- ", "e4- ", "f4- ", "f#4- ", "g4- ", "g#4- ", "a4- ", "a#4- ", "b4- "};
        for (int[] row : near) {
            StringBuilder text = new StringBuilder("voice v treble 0 {");
            for (int n = 1; n < row.length; n += 2) {
                text.append(scale[row[n]].repeat(row[n + 1]));
            }
            CHECKS.due("key of " + text, CHECKS.house(text + "}").look(0, 9), row[0]);
        }
        CHECKS.due("of several the first", CHECKS.house("voice v treble 0 {" + String.join("", scale) + "}").look(0, 9), 12);
        CHECKS.due("one tone alone", CHECKS.house("voice v treble 0 {f#4}").look(0, 9), 6);
    }

    private static void wrongAsked() {
        StaveHouse house = CHECKS.house("voice v treble 0 {c4}");
        CHECKS.due("perform(1)", house.perform(1), -1);
        CHECKS.due("perform(2)", house.perform(2), -1);
        CHECKS.due("perform(-1)", house.perform(-1), -1);
        CHECKS.due("stroke ahead of perform()", house.stroke(0, 0, 0), -1);
        house.perform(0);
        CHECKS.due("stroke, 4", house.stroke(0, 0, 4), -1);
        CHECKS.due("stroke, -1", house.stroke(0, 0, -1), -1);
        CHECKS.due("stroke 2", house.stroke(0, 2, 0), -1);
        CHECKS.due("stroke -1", house.stroke(0, -1, 0), -1);
        CHECKS.due("stroke of piece 1", house.stroke(1, 0, 0), -1);
        CHECKS.due("stroke of piece 3", house.stroke(3, 0, 0), -1);
    }
}
