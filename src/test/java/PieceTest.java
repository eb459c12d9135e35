/** Promises 5 to 9: look, voice, name, event, pitch. */
public final class PieceTest {
    private static final Checks CHECKS = new Checks();

    public static void main(String[] args) {
        heads();
        voices();
        lengths();
        loudness();
        repeats();
        lets();
        movesAndMirrors();
        backs();
        chords();
        wrongAsked();
        CHECKS.finish();
    }

    private static long[] event(StaveHouse house, int v, int i) {
        long[] row = new long[8];
        for (int what = 0; what < 8; what++) {
            row[what] = house.event(0, v, i, what);
        }
        return row;
    }

    private static long[] pitch(StaveHouse house, int i, int k) {
        return new long[] {house.pitch(0, 0, i, k, 0), house.pitch(0, 0, i, k, 1), house.pitch(0, 0, i, k, 2)};
    }

    private static void dueSteps(String call, StaveHouse house, int... steps) {
        CHECKS.due(call + " (events)", house.voice(0, 0, 2), steps.length);
        for (int i = 0; i < steps.length; i++) {
            int step = house.event(0, 0, i, 4) == 0 ? -1 : house.pitch(0, 0, i, 0, 0);
            CHECKS.due(call + " (step of " + i + ")", step, steps[i]);
        }
    }

    private static void heads() {
        StaveHouse house = CHECKS.house("tempo 77 key -3 minor time 6/8 voice v alto 2 {c4:1 c4:8}");
        long[] row = new long[14];
        for (int what = 0; what < 14; what++) {
            row[what] = house.look(0, what);
        }
        CHECKS.dueRow("look", row, 1, 2, -3, 1, 6, 8, 77, 2, 0, 0, 0, 0, 0, 0);
        StaveHouse bare = CHECKS.house("voice v alto 2 {r:1}");
        CHECKS.due("fifths without them", bare.look(0, 2), 0);
        CHECKS.due("major without them", bare.look(0, 3), 0);
        CHECKS.due("n without it", bare.look(0, 4), 4);
        CHECKS.due("d without it", bare.look(0, 5), 4);
        CHECKS.due("tempo without it", bare.look(0, 6), 120);
        CHECKS.due("bars", bare.look(0, 1), 1);
        CHECKS.due("no key is heard in rests", bare.look(0, 9), -1);
        StaveHouse many = CHECKS.house("voice v alto 2 {" + "c4:1% ".repeat(63) + "}");
        CHECKS.due("too many sounds: no key is heard", many.look(0, 9), -1);
    }

    private static void voices() {
        StaveHouse house = CHECKS.house("voice abcdefgh treble 0 {c4} voice b bass 1 {c4} voice cc alto 2 {c4:8 r}"
            + "voice d tenor 3 {<c4 e4>}");
        CHECKS.due("voices", house.look(0, 0), 4);
        for (int v = 0; v < 4; v++) {
            CHECKS.due("clef " + v, house.voice(0, v, 0), v);
            CHECKS.due("number " + v, house.voice(0, v, 1), v);
            CHECKS.due("events " + v, house.voice(0, v, 2), v == 2 ? 2 : 1);
            CHECKS.due("notes " + v, house.voice(0, v, 3), v == 2 ? 3 : 2);
        }
        CHECKS.due("name of eight", house.name(0, 0), 0x6162636465666768L);
        CHECKS.due("name of one", house.name(0, 1), 0x62);
        CHECKS.due("name of two", house.name(0, 2), 0x6363);
        CHECKS.due("no voice", house.name(0, 4), 0);
        CHECKS.due("no voice below", house.name(0, -1), 0);
        CHECKS.due("no piece", house.name(1, 0), 0);
        CHECKS.due("no place", house.name(2, 0), 0);
    }

    private static void lengths() {
        StaveHouse house = CHECKS.house("time 7/2 voice v treble 0 {c4 d4:8. e4 f4:2.. slow 3/2{g4} [3/2:a4:8 a4 a4] r:32}");
        CHECKS.dueRow("the quarter at first", event(house, 0, 0), 0, 1, 1, 4, 1, 0, 4, 27);
        CHECKS.dueRow("a point", event(house, 0, 1), 1, 4, 3, 16, 1, 0, 4, 30);
        CHECKS.dueRow("the nearest length", event(house, 0, 2), 7, 16, 3, 16, 1, 0, 4, 36);
        CHECKS.dueRow("two points", event(house, 0, 3), 5, 8, 7, 8, 1, 0, 4, 39);
        CHECKS.dueRow("slow", event(house, 0, 4), 3, 2, 21, 16, 1, 0, 4, 55);
        CHECKS.dueRow("bracket", event(house, 0, 6), 139, 48, 1, 12, 1, 0, 4, 69);
        CHECKS.dueRow("a rest", event(house, 0, 8), 49, 16, 1, 32, 0, 0, 4, 76);
        // the nearest length is looked for in the text: behind alt, in rests and chords, gone through or not
        StaveHouse text = CHECKS.house("voice v treble 0 {repeat 2{c4}alt{r:8}{<c4 e4>:16}{d4:2} e4}");
        CHECKS.due("behind alt", text.event(0, 0, 4, 3), 2);
        // not in another voice or let
        StaveHouse other = CHECKS.house("let m = {c4:1 d4} voice a treble 0 {e4:1 use m} voice b bass 0 {f4 slow 7/1{f4} r:1}");
        CHECKS.due("in the let", other.event(0, 0, 2, 2), 1);
        CHECKS.due("in the other voice", other.event(0, 1, 0, 3), 4);
    }

    private static void loudness() {
        StaveHouse house = CHECKS.house("let m = {!ff} voice v treble 0 {c4:4 !ppp c4 repeat 2{c4 use m} back{c4 !p d4} c4}"
            + "voice w bass 0 {c4:2. c4:1}");
        int[] want = {4, 0, 0, 6, 2, 6, 2};
        for (int i = 0; i < want.length; i++) {
            CHECKS.due("loudness of " + i, house.event(0, 0, i, 6), want[i]);
        }
        CHECKS.due("mf at first in each voice", house.event(0, 1, 0, 6), 4);
    }

    private static void repeats() {
        dueSteps("repeat", CHECKS.house("voice v treble 0 {repeat 3{c4 d4}}"), 28, 29, 28, 29, 28, 29);
        dueSteps("alt", CHECKS.house("voice v treble 0 {repeat 4{c4}alt{d4}{e4 r}}"), 28, 29, 28, 30, -1, 28, 30, -1, 28,
            30, -1);
        dueSteps("more alts", CHECKS.house("voice v treble 0 {repeat 2{}alt{d4}{e4}{f4}}"), 29, 30);
        dueSteps("within", CHECKS.house("voice v treble 0 {repeat 2{c4 repeat 2{d4}}}"), 28, 29, 29, 28, 29, 29);
    }

    private static void lets() {
        dueSteps("use", CHECKS.house("let m={c4}let n={use m d4 use m}voice v treble 0 {use n e4 move c4 e4{use m}}"), 28,
            29, 28, 30, 30);
    }

    private static void movesAndMirrors() {
        StaveHouse house = CHECKS.house("voice v treble 0 {move c4 eb4{c4 f#4} mirror d4{c4 f#4 bb3}"
            + " move c4 d4{mirror c4{d4}} mirror c4{move c4 d4{d4}} move d4 c4{c#4}}");
        CHECKS.dueRow("moved", pitch(house, 0, 0), 30, -1, 63);
        CHECKS.dueRow("moved", pitch(house, 1, 0), 33, 0, 69);
        CHECKS.dueRow("mirrored", pitch(house, 2, 0), 30, 0, 64);
        CHECKS.dueRow("mirrored", pitch(house, 3, 0), 27, -1, 58);
        CHECKS.dueRow("mirrored", pitch(house, 4, 0), 31, 1, 66);
        CHECKS.dueRow("the innermost first", pitch(house, 5, 0), 28, 0, 60);
        CHECKS.dueRow("the innermost first", pitch(house, 6, 0), 26, -1, 56);
        CHECKS.dueRow("downwards", pitch(house, 7, 0), 27, 0, 59);
        CHECKS.dueRow("the lowest", pitch(CHECKS.house("voice v bass 0 {cbb0}"), 0, 0), 0, -2, 10);
        CHECKS.dueRow("the highest", pitch(CHECKS.house("voice v bass 0 {b##8}"), 0, 0), 62, 2, 121);
    }

    private static void backs() {
        dueSteps("back", CHECKS.house("voice v treble 0 {c4 back{d4:8 e4:4 f4:2} g4}"), 28, 31, 30, 29, 32);
        dueSteps("back in back", CHECKS.house("voice v treble 0 {back{c4 back{d4 e4} f4}}"), 31, 29, 30, 28);
        StaveHouse house = CHECKS.house("voice v treble 0 {back{c4:8(^ d4:4~ d4:2)' e4-}}");
        CHECKS.dueRow("the last first", event(house, 0, 0), 0, 1, 1, 2, 1, 32, 4, 43);
        CHECKS.due("( and ', ~ from the one that follows", house.event(0, 0, 1, 5), 1 + 2 + 8);
        CHECKS.due("its ~ went", house.event(0, 0, 2, 5), 0);
        CHECKS.due(") and ^", house.event(0, 0, 3, 5), 4 + 16);
        CHECKS.due("its place", house.event(0, 0, 3, 0), 5);
        CHECKS.due("its place", house.event(0, 0, 3, 1), 4);
        StaveHouse lost = CHECKS.house("voice v treble 0 {back{c4 c4~} c4}");
        CHECKS.due("~ out of the back is lost", lost.event(0, 0, 0, 5), 0);
        CHECKS.due("none before it", lost.event(0, 0, 1, 5), 0);
    }

    private static void chords() {
        StaveHouse house = CHECKS.house("voice v treble 0 {<g4 c4 eb5 b#3>~^-' <c4 a4>%}");
        CHECKS.dueRow("a chord", event(house, 0, 0), 0, 1, 1, 4, 4, 1 + 8 + 16 + 32, 4, 18);
        CHECKS.dueRow("the least step", pitch(house, 0, 0), 27, 1, 60);
        CHECKS.dueRow("then", pitch(house, 0, 1), 28, 0, 60);
        CHECKS.dueRow("then", pitch(house, 0, 2), 32, 0, 67);
        CHECKS.dueRow("the greatest", pitch(house, 0, 3), 37, -1, 75);
        CHECKS.due("%", house.event(0, 0, 1, 5), 64);
    }

    private static void wrongAsked() {
        StaveHouse house = CHECKS.house("voice v treble 0 {c4 r}");
        int[] far = {Integer.MIN_VALUE, -1, 2, Integer.MAX_VALUE};
        for (int n : far) {
            CHECKS.due("look of piece " + n, house.look(n, 0), -1);
            CHECKS.due("voice of piece " + n, house.voice(n, 0, 0), -1);
            CHECKS.due("voice " + n, house.voice(0, n, 0), -1);
            CHECKS.due("event " + n, house.event(0, 0, n, 0), -1);
            CHECKS.due("event of voice " + n, house.event(0, n, 0, 0), -1);
            CHECKS.due("event of piece " + n, house.event(n, 0, 0, 0), -1);
            CHECKS.due("pitch " + n, house.pitch(0, 0, 0, n, 0), Integer.MIN_VALUE);
            CHECKS.due("pitch of event " + n, house.pitch(0, 0, n, 0, 0), Integer.MIN_VALUE);
            CHECKS.due("pitch of voice " + n, house.pitch(0, n, 0, 0, 0), Integer.MIN_VALUE);
            CHECKS.due("pitch of piece " + n, house.pitch(n, 0, 0, 0, 0), Integer.MIN_VALUE);
        }
        CHECKS.due("look at 14", house.look(0, 14), -1);
        CHECKS.due("look at -1", house.look(0, -1), -1);
        CHECKS.due("look without a piece", house.look(1, 4), -1);
        CHECKS.due("voice, 4", house.voice(0, 0, 4), -1);
        CHECKS.due("voice, -1", house.voice(0, 0, -1), -1);
        CHECKS.due("event, 8", house.event(0, 0, 0, 8), -1);
        CHECKS.due("event, -1", house.event(0, 0, 0, -1), -1);
        CHECKS.due("pitch, 3", house.pitch(0, 0, 0, 0, 3), Integer.MIN_VALUE);
        CHECKS.due("pitch, -1", house.pitch(0, 0, 0, 0, -1), Integer.MIN_VALUE);
        CHECKS.due("pitch 1 of one", house.pitch(0, 0, 0, 1, 0), Integer.MIN_VALUE);
        CHECKS.due("pitch of a rest", house.pitch(0, 0, 1, 0, 0), Integer.MIN_VALUE);
    }
}
