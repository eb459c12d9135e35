import java.io.ByteArrayOutputStream;
import java.util.ArrayList;
import java.util.List;
import java.util.function.ToLongFunction;

/** Part V, what is WRITTEN of Part VI, and promises 14 to 18, sentence by sentence. */
public final class BoundsOfPerformancesTest {
    private static final Checks CHECKS = new Checks();
    private static final String VOICE = "voice v treble 0 {";
    private static final int[] NATURALS = {0, 2, 4, 5, 7, 9, 11};

    public static void main(String[] args) {
        endsOfSounds();
        slurs();
        floors();
        noTicks();
        forces();
        forcesOfTies();
        trillsByTwelve();
        trillsAbove();
        notTrilled();
        mostSounds();
        orderOfStrokes();
        aheadOfPerform();
        deltas();
        heads();
        namesInFiles();
        wholeFiles();
        statusOnce();
        out();
        again();
        keyHeard();
        CHECKS.finish();
    }

    /** An item of so many 128ths, or null if no length comes to that. */
    private static String item(String pitch, int value, String marks) {
        int[] quarters = {4, 6, 7};
        for (int number = 1; number <= 32; number *= 2) {
            for (int points = 0; points < 3; points++) {
                for (int above = 1; above <= 8; above++) {
                    for (int below = 1; below <= 8; below++) {
                        if (128 / number * quarters[points] * above == 4 * value * below) {
                            return "slow " + above + "/" + below + "{" + pitch + ":" + number + ".".repeat(points) + marks + "}";
                        }
                    }
                }
            }
        }
        return null;
    }

    /** Within [3/1: a 128th is a tick; rests fill up to a 128th. */
    private static String ticks(String items, int ticks) {
        return "time 12/2 " + VOICE + "[3/1:" + items + item("r", 1, "").repeat((3 - ticks % 3) % 3) + "]}";
    }

    private static long[] strokes(Script script) {
        List<ToLongFunction<StaveHouse>> questions = new ArrayList<>();
        long strokes = script.ask(house -> house.look(0, 12));
        for (int n = 0; n < 4 * strokes; n++) {
            int at = n;
            questions.add(house -> house.stroke(0, at / 4, at % 4));
        }
        return script.ask(questions);
    }

    private static Script performed(String text) {
        Script script = new Script().piece(0, text).then(house -> house.perform(0));
        CHECKS.due("performed is " + text, script.ask(house -> house.look(0, 0)) > 0 ? 1 : 0, 1);
        return script;
    }

    /** "it ends at b + l, if the last EVENT has -, .. and no '; else, if it has ', at b + 1 or b + l / 2, if that is more; else at b + l - l / 8". */
    private static void endsOfSounds() {
        for (int l = 1; l <= 100; l++) {
            if (item("c4", l, "") == null) {
                continue;
            }
            String[] marks = {"", "-", "'", "'-", "^", "^-"};
            int[] ends = {l - l / 8, l, Math.max(1, l / 2), Math.max(1, l / 2), l - l / 8, l};
            for (int m = 0; m < marks.length; m++) {
                Script script = performed(ticks(item("c4", l, marks[m]), l));
                CHECKS.dueRow(l + " ticks with " + marks[m], strokes(script), 0, 0, 60, m < 4 ? 72 : 87, ends[m], 0, 60, 0);
            }
            // tied: the last one's marks, and all of them together
            Script tied = performed(ticks(item("c4", 1, "~-'") + item("c4", l, ""), l + 1));
            CHECKS.dueRow("tied to " + l, strokes(tied), 0, 0, 60, 72, l + 1 - (l + 1) / 8, 0, 60, 0);
            Script last = performed(ticks(item("c4", l, "~") + item("c4", 1, "'"), l + 1));
            CHECKS.dueRow("tied from " + l, strokes(last), 0, 0, 60, 72, Math.max(1, (l + 1) / 2), 0, 60, 0);
        }
    }

    /** "stands in a slur (from one with ( to ahead of that with the next ) )". */
    private static void slurs() {
        StaveHouse house = performed(VOICE + "c4 d4( e4 f4' g4) a4}").made();
        int[] ends = {84, 192, 288, 336, 468, 564};
        for (int i = 0; i < 6; i++) {
            boolean found = false;
            for (int n = 0; n < 12; n++) {
                found |= house.stroke(0, n, 0) == ends[i] && house.stroke(0, n, 3) == 0 && house.stroke(0, n, 2) == 60 + new int[] {0, 2, 4, 5, 7, 9}[i];
            }
            CHECKS.due("end of " + i + " is " + ends[i], found ? 1 : 0, 1);
        }
        StaveHouse both = performed(VOICE + "c4( d4)( e4)}").made();
        CHECKS.due("the one with both is in the next one", both.stroke(0, 3, 0), 192);
        CHECKS.due("the last one isn't", both.stroke(0, 5, 0), 276);
        StaveHouse tied = performed(VOICE + "c4( d4~ d4)}").made();
        CHECKS.due("tied out of it", tied.stroke(0, 3, 0), 288 - 192 / 8);
        StaveHouse into = performed(VOICE + "c4~ c4( d4)}").made();
        CHECKS.due("tied into it", into.stroke(0, 1, 0), 192);
    }

    /** "a place's TICK is FLOOR of 384 times it". */
    private static void floors() {
        String[] brackets = {"[7/4:", "[9/8:", "[5/4:", "[9/7:", "[3/2:[7/4:", "[9/5:[8/7:"};
        int[] counts = {7, 9, 5, 9, 21, 72};
        for (int n = 0; n < brackets.length; n++) {
            String[] all = "c4- d4- e4- f4- g4- a4- b4- c5- ".repeat(9).split(" ");
            StringBuilder text = new StringBuilder("time 12/2 " + VOICE + brackets[n]);
            for (int i = 0; i < counts[n]; i++) {
                text.append(i == 0 ? "c4:16-" : all[i]).append(' ');
            }
            text.append("]".repeat(brackets[n].length() / 5)).append("}");
            Script script = performed(text.toString());
            long[] got = strokes(script);
            int at = 0;
            StaveHouse house = script.made();
            for (int i = 0; i < counts[n] && i < 50; i++) {
                long place = 384 * house.event(0, 0, i, 0) / house.event(0, 0, i, 1);
                while (at < got.length && got[at + 3] == 0) {
                    at += 4;
                }
                CHECKS.due("tick of " + i + " in " + text, got[at], place);
                at += 4;
            }
        }
        StaveHouse late = performed("time 12/2 " + VOICE + "repeat 4{repeat 4{repeat 4{slow 8/1{r:1}}}} repeat 2{repeat 4{slow 8/1{r:1}}} slow 7/1{r:1} c4:1-}").made();
        // 512 + 64 + 7 wholes are gone
        CHECKS.due("a great tick", late.stroke(0, 0, 0), 583 * 384);
        CHECKS.due("the end of the last bar but 16", late.stroke(0, 1, 0), 584 * 384);
    }

    /** "A SOUND with l = 0 is none". */
    private static void noTicks() {
        // the nine are 1/9 of a 128th each: ticks 0 0 0 1 1 1 2 2 2
        Script nine = performed(VOICE + "[9/1:slow 1/4{c4:32- d4- e4- f4- g4- a4- b4- c5- d5-}]}");
        CHECKS.dueRow("three of nine", strokes(nine), 0, 0, 64, 72, 1, 0, 64, 0, 1, 0, 69, 72, 2, 0, 69, 0, 2, 0, 74, 72, 3, 0, 74, 0);
        Script tied = performed(VOICE + "[9/1:slow 1/4{c4:32~ c4~ c4- d4% e4% f4% g4' a4~ a4'}]}");
        CHECKS.dueRow("tied till there is one", strokes(tied), 0, 0, 60, 72, 1, 0, 60, 0, 1, 0, 65, 72, 2, 0, 65, 0, 2, 0, 69, 72, 3, 0, 69, 0);
        Script none = performed(VOICE + "[9/1:slow 1/4{c4:32- r r r r r r r r}]}");
        CHECKS.due("none at all", none.ask(house -> house.look(0, 11)), 0);
        CHECKS.due("perform answers 0", none.ask(house -> house.perform(0)), 0);
        CHECKS.due("no key is heard", none.ask(house -> house.look(0, 9)), -1);
        CHECKS.due("no stroke", none.ask(house -> house.stroke(0, 0, 0)), -1);
        CHECKS.due("a file of no strokes", none.ask(house -> house.file(0)), 14 + 33 + 8 + 5 + 3 + 4);
    }

    /** "Its FORCE: 20, 33, .. by LOUDNESS of the first EVENT, 15 more with ^ (its), 127 at most". */
    private static void forces() {
        String[] louds = {"ppp", "pp", "p", "mp", "mf", "f", "ff", "fff"};
        for (int n = 0; n < 8; n++) {
            int force = 20 + 13 * n;
            Script script = performed(VOICE + "! " + louds[n] + " c4- <c4 e4>^- c4:16%^}");
            CHECKS.dueRow(louds[n], strokes(script), 0, 0, 60, force, 96, 0, 60, 0, 96, 0, 60, force + 15, 96, 0, 64, force + 15, 192, 0, 60, 0, 192, 0, 64, 0,
                192, 0, 60, force + 15, 204, 0, 60, 0, 204, 0, 62, force + 15, 216, 0, 62, 0);
        }
    }

    private static void forcesOfTies() {
        Script script = performed(VOICE + "!f c4~^ !p c4~ !ff c4-}");
        CHECKS.dueRow("the first one's", strokes(script), 0, 0, 60, 100, 288, 0, 60, 0);
        Script chord = performed(VOICE + "!f <c4 e4>~ !p <c4 d4>^-}");
        CHECKS.dueRow("each sound's first one", strokes(chord), 0, 0, 60, 85, 0, 0, 64, 85, 84, 0, 64, 0, 96, 0, 62, 61, 192, 0, 60, 0, 192, 0, 62, 0);
    }

    /** "several, 12 TICKS each (the last one what is left, l all together, whatever else it has)". */
    private static void trillsByTwelve() {
        for (int l = 1; l <= 60; l++) {
            if (item("c4", l, "") == null) {
                continue;
            }
            for (String marks : new String[] {"%", "%'", "%-"}) {
                long[] got = strokes(performed(ticks(item("c4", l, marks), l)));
                long[] want = new long[8 * ((l + 11) / 12)];
                for (int n = 0; n < want.length; n += 8) {
                    long tone = n / 8 % 2 == 0 ? 60 : 62;
                    long[] one = {12 * (n / 8), 0, tone, 72, Math.min(l, 12 * (n / 8) + 12), 0, tone, 0};
                    System.arraycopy(one, 0, want, n, 8);
                }
                CHECKS.dueRow(l + " ticks with " + marks, got, want);
            }
        }
    }

    /** "the one a STEP above (with the KEY's ALTERATION; if there is none such, of its PITCH alone)". */
    private static void trillsAbove() {
        for (int fifths = -7; fifths <= 7; fifths++) {
            StringBuilder text = new StringBuilder("key " + (fifths < 0 ? "-" : "") + Math.abs(fifths) + " major " + VOICE);
            for (int step = 0; step < 63; step++) {
                text.append("cdefgab".charAt(step % 7)).append(step / 7).append(step == 0 ? ":16% " : "% ");
            }
            long[] got = strokes(performed(text + "}"));
            CHECKS.due("strokes", got.length, 63 * 4 * 4);
            int at = 0;
            for (int step = 0; step < 63; step++) {
                int above = step == 62 ? step : step + 1;
                int low = 12 * (step / 7 + 1) + NATURALS[step % 7];
                int high = 12 * (above / 7 + 1) + NATURALS[above % 7] + (step == 62 ? 0 : keyAlteration(fifths, above % 7));
                int[] tones = {low, high};
                for (int n = 0; n < 2; n++) {
                    while (got[at + 3] == 0) {
                        at += 4;
                    }
                    CHECKS.due("tone " + n + " of step " + step + " with " + fifths, got[at + 2], tones[n]);
                    CHECKS.due("tick " + n + " of step " + step + " with " + fifths, got[at], 24 * step + 12 * n);
                    at += 4;
                }
            }
        }
        Script altered = performed("key 2 major " + VOICE + "eb4:16% e##4% b##8%}");
        CHECKS.dueRow("the pitch keeps its own", strokes(altered), 0, 0, 63, 72, 12, 0, 63, 0, 12, 0, 66, 72, 24, 0, 66, 0, 24, 0, 66, 72, 36, 0, 66, 0, 36, 0, 66, 72, 48, 0,
            66, 0, 48, 0, 121, 72, 60, 0, 121, 0, 60, 0, 121, 72, 72, 0, 121, 0);
    }

    private static int keyAlteration(int fifths, int letter) {
        String order = fifths > 0 ? "fcgdaeb" : "beadgcf";
        return order.indexOf("cdefgab".charAt(letter)) < Math.abs(fifths) ? Integer.signum(fifths) : 0;
    }

    /** "An EVENT with %, of one PITCH, that ~ neither ties to the next one nor the one ahead to it". */
    private static void notTrilled() {
        CHECKS.due("of two pitches", performed(VOICE + "<c4 e4>%}").ask(house -> house.look(0, 11)), 2);
        CHECKS.due("tied to the next one", performed(VOICE + "c4%~ c4}").ask(house -> house.look(0, 11)), 1);
        CHECKS.due("tied from the one ahead", performed(VOICE + "c4~ c4%}").ask(house -> house.look(0, 11)), 1);
        CHECKS.due("tied from one of a chord", performed(VOICE + "<c4 e4>~ c4%}").ask(house -> house.look(0, 11)), 2);
        CHECKS.due("behind one that isn't tied", performed(VOICE + "c4 c4%}").ask(house -> house.look(0, 11)), 9);
        CHECKS.due("behind a chord that isn't tied", performed(VOICE + "<c4 e4> c4%}").ask(house -> house.look(0, 11)), 10);
        CHECKS.due("alone", performed(VOICE + "c4%}").ask(house -> house.look(0, 11)), 8);
    }

    /** "More than 2000 SOUNDS: TOO MANY"; "-2 if they are TOO MANY; nothing changes then". */
    private static void mostSounds() {
        String most = VOICE + "c4:1% ".repeat(62) + "c4:2% ";
        Script full = performed(most + "}");
        CHECKS.due("2000", full.ask(house -> house.perform(0)), 2000);
        CHECKS.due("strokes", full.ask(house -> house.look(0, 12)), 4000);
        CHECKS.due("the last stroke", full.ask(house -> house.stroke(0, 3999, 0)), 62 * 384 + 192);
        CHECKS.due("none more", full.ask(house -> house.stroke(0, 4000, 0)), -1);
        CHECKS.due("a key is heard", full.ask(house -> house.look(0, 9)) >= 0 ? 1 : 0, 1);
        CHECKS.due("it is played", full.ask(house -> house.play(0, 1000)), 1000);
        CHECKS.due("it is written", full.ask(house -> house.file(0)), 14 + 33 + 8 + 5 + 3 + 1 + 3 * 4000 + 4);
        Script more = new Script().piece(0, most + "c4:32}").then(house -> house.perform(0));
        CHECKS.due("2001", more.ask(house -> house.perform(0)), -2);
        CHECKS.due("sounds", more.ask(house -> house.look(0, 11)), 0);
        CHECKS.due("strokes", more.ask(house -> house.look(0, 12)), 0);
        CHECKS.due("samples", more.ask(house -> house.look(0, 13)), 0);
        CHECKS.due("no key is heard", more.ask(house -> house.look(0, 9)), -1);
        CHECKS.due("not written", more.ask(house -> house.file(0)), -1);
        CHECKS.due("nothing is written", more.ask(house -> house.out(0)), -1);
        CHECKS.due("not played", more.ask(house -> house.play(0, 1)), -1);
        CHECKS.due("its other answers stay", more.ask(house -> house.voice(0, 0, 2)), 64);
        // in four voices of six pitches each
        String music = "bass 0{repeat 4{repeat 4{repeat 4{<c4 d4 e4 f4 g4 a4>:32}}} repeat 4{repeat 4{<c4 d4 e4 f4 g4 a4>:32}} <c4 d4 e4>:32 c4 ";
        Script four = new Script().piece(0, "voice s " + music + "}voice t " + music + "}voice u " + music + "}voice w " + music + "}");
        CHECKS.due("4 * 484", four.ask(house -> house.perform(0)), 4 * 484);
        String last = music + "<c4 d4 e4 f4 g4 a4>:32 <c4 d4 e4 f4 g4 a4> <c4 d4 e4 f4> ";
        Script just = new Script().piece(0, "voice s " + last + "}voice t " + last + "}voice u " + last + "}voice w " + last + "}");
        CHECKS.due("4 * 500", just.ask(house -> house.perform(0)), 2000);
        Script over = new Script().piece(0, "voice s " + last + "}voice t " + last + "}voice u " + last + "}voice w " + last.replace("<c4 d4 e4 f4> ", "<c4 d4 e4 f4 g4> ") + "}");
        CHECKS.due("one more in the last voice", over.ask(house -> house.perform(0)), -2);
    }

    /** "by TICKS; at one TICK ends first; then by VOICES, then by TONES". */
    private static void orderOfStrokes() {
        Script script = performed("voice a treble 0{c5- d5-}voice b treble 0{<e4 g4>- e4-}voice c bass 0{r e3-}voice d bass 0{c3- <c3 e3>-}");
        CHECKS.dueRow("strokes", strokes(script), 0, 0, 72, 72, 0, 1, 64, 72, 0, 1, 67, 72, 0, 3, 48, 72, 96, 0, 72, 0, 96, 1, 64, 0, 96, 1, 67, 0, 96, 3, 48, 0, 96, 0, 74, 72,
            96, 1, 64, 72, 96, 2, 52, 72, 96, 3, 48, 72, 96, 3, 52, 72, 192, 0, 74, 0, 192, 1, 64, 0, 192, 2, 52, 0, 192, 3, 48, 0, 192, 3, 52, 0);
        // by tones, not by steps
        Script tones = performed(VOICE + "<b##3 c4>-}");
        CHECKS.dueRow("tones", strokes(tones), 0, 0, 60, 72, 0, 0, 61, 72, 96, 0, 60, 0, 96, 0, 61, 0);
    }

    /** "0 ahead of perform()"; "NONE ahead of perform()"; "NONE without a piece". */
    private static void aheadOfPerform() {
        StaveHouse house = CHECKS.house(VOICE + "c4}");
        for (int what = 11; what <= 13; what++) {
            CHECKS.due("look " + what + " ahead of perform()", house.look(0, what), 0);
        }
        CHECKS.due("the key is heard ahead of it", house.look(0, 9), 0);
        CHECKS.due("stroke", house.stroke(0, 0, 0), -1);
        CHECKS.due("file", house.file(0), -1);
        CHECKS.due("play", house.play(0, 0), -1);
        CHECKS.due("sample", house.sample(0, 0, 0), Integer.MIN_VALUE);
        for (int h : new int[] {Integer.MIN_VALUE, -1, 1, 2, Integer.MAX_VALUE}) {
            CHECKS.due("perform(" + h + ")", house.perform(h), -1);
            CHECKS.due("file(" + h + ")", house.file(h), -1);
        }
        CHECKS.due("not yet", house.look(0, 11), 0);
        CHECKS.due("perform(0)", house.perform(0), 1);
        CHECKS.due("perform(0) again", house.perform(0), 1);
        CHECKS.due("look 11", house.look(0, 11), 1);
        CHECKS.due("look 12", house.look(0, 12), 2);
        CHECKS.due("look 13", house.look(0, 13), 0);
    }

    private static void dueDelta(String text, int delta, int... bytes) {
        Script script = performed(text);
        long[] got = strokes(script);
        CHECKS.due("delta of " + text, got[4] - got[0], delta);
        int first = delta(got[0]).length;
        // behind the first stroke: delta, status, tone, force
        int at = 47 + 8 + 5 + 3 + first + 3;
        StaveHouse house = script.made();
        house.file(0);
        for (int n = 0; n < bytes.length; n++) {
            CHECKS.due("byte " + n + " of the delta " + delta, house.out(at + n), bytes[n]);
        }
        CHECKS.due("the tone behind it", house.out(at + bytes.length), 60);
    }

    /** "DELTA: a number in groups of seven bits, the highest first, 128 added to all but the last, as few as can be". */
    private static void deltas() {
        dueDelta(ticks(item("c4", 1, "-"), 1), 1, 1);
        dueDelta(ticks(item("r", 1, "") + item("c4", 112, "~") + item("c4", 15, "-"), 128), 127, 127);
        dueDelta(ticks(item("c4", 128, "-"), 128), 128, 129, 0);
        dueDelta(ticks(item("c4", 128, "~") + item("c4", 1, "-"), 129), 129, 129, 1);
        dueDelta("time 12/2 " + VOICE + "slow 5/1{c4:1-}}", 1920, 0x8f, 0);
        String long1 = "time 12/2 " + VOICE + "repeat 4{slow 8/1{c4:1~}} slow 8/1{c4:1~} slow 2/1{c4:1~} ";
        // 42 wholes are 16128 ticks; 255 and 256 more
        dueDelta(long1 + "c4:2~ [3/1:" + item("c4", 56, "~") + item("c4", 7, "-") + item("r", 3, "") + "]}", 16383, 255, 127);
        dueDelta(long1 + "c4:2~ [3/1:" + item("c4", 64, "-") + item("r", 2, "") + "]}", 16384, 129, 128, 0);
        dueDelta(long1 + "c4:2~ [3/1:" + item("c4", 64, "~") + item("c4", 1, "-") + item("r", 1, "") + "]}", 16385, 129, 128, 1);
    }

    /** "n log2(d) 24 8; .. FIFTHS (as a byte), 0 or 1 (minor); .. 60,000,000 / tempo in three bytes"; "0 and VOICES + 1". */
    private static void heads() {
        for (int fifths = -7; fifths <= 7; fifths++) {
            int tempo = fifths == -7 ? 20 : fifths == 7 ? 300 : 120 + fifths;
            int above = (fifths + 12) % 12 + 1;
            int below = 2 << (fifths + 8) % 4;
            int voices = (fifths + 8) % 4 + 1;
            String minor = fifths % 2 == 0 ? "major" : "minor";
            StringBuilder text = new StringBuilder("key " + (fifths < 0 ? "-" : "") + Math.abs(fifths) + " " + minor + " time " + above + "/" + below + " tempo " + tempo + " ");
            for (int v = 0; v < voices; v++) {
                text.append("voice ").append((char) ('s' + v)).append(" bass ").append(3 - v).append("{c4}");
            }
            StaveHouse house = performed(text.toString()).made();
            house.file(0);
            int micro = 60000000 / tempo;
            int log = below == 2 ? 1 : below == 4 ? 2 : below == 8 ? 3 : 4;
            int[] want = {'M', 'T', 'h', 'd', 0, 0, 0, 6, 0, 1, 0, voices + 1, 0, 96, 'M', 'T', 'r', 'k', 0, 0, 0, 25, 0, 255, 88, 4, above, log, 24, 8, 0, 255, 89, 2,
                fifths & 255, fifths % 2 == 0 ? 0 : 1, 0, 255, 81, 3, micro >> 16, micro >> 8 & 255, micro & 255, 0, 255, 47, 0, 'M', 'T', 'r', 'k'};
            for (int i = 0; i < want.length; i++) {
                CHECKS.due("byte " + i + " of " + text, house.out(i), want[i]);
            }
        }
        int[][] tempos = {{20, 45, 198, 192}, {300, 3, 13, 64}, {120, 7, 161, 32}, {299, 3, 15, 220}, {21, 43, 152, 182}, {151, 6, 16, 38}};
        for (int[] row : tempos) {
            StaveHouse house = performed("tempo " + row[0] + " " + VOICE + "c4}").made();
            house.file(0);
            for (int n = 1; n < 4; n++) {
                CHECKS.due("byte " + n + " of tempo " + row[0], house.out(39 + n), row[n]);
            }
        }
    }

    /** "255 3, the NAME's size, the NAME; 192 + v, its NUMBER". */
    private static void namesInFiles() {
        for (int size = 1; size <= 8; size++) {
            String name = "zyxwvuts".substring(0, size);
            StaveHouse house = performed("voice " + name + " bass 3 {c4}").made();
            CHECKS.due("file", house.file(0), 47 + 8 + 4 + size + 3 + 4 + 3 + 4);
            CHECKS.due("the size", house.out(58), size);
            for (int n = 0; n < size; n++) {
                CHECKS.due("letter " + n, house.out(59 + n), name.charAt(n));
            }
            CHECKS.due("behind it", house.out(59 + size), 0);
            CHECKS.due("192", house.out(60 + size), 192);
            CHECKS.due("the number", house.out(61 + size), 3);
        }
    }

    private static int[] delta(long number) {
        List<Integer> groups = new ArrayList<>();
        long left = number;
        do {
            groups.add(0, (int) (left % 128) + (groups.isEmpty() ? 0 : 128));
            left /= 128;
        } while (left > 0);
        return groups.stream().mapToInt(n -> n).toArray();
    }

    private static void put(ByteArrayOutputStream out, int... bytes) {
        for (int b : bytes) {
            out.write(b);
        }
    }

    /** A whole file as the document has it, from what is told of the piece and its strokes. */
    private static byte[] fileOf(Script script) {
        StaveHouse house = script.made();
        int voices = house.look(0, 0);
        ByteArrayOutputStream out = new ByteArrayOutputStream();
        put(out, 'M', 'T', 'h', 'd', 0, 0, 0, 6, 0, 1, 0, voices + 1, 0, 96);
        int micro = 60000000 / house.look(0, 6);
        put(out, 'M', 'T', 'r', 'k', 0, 0, 0, 25, 0, 255, 88, 4, house.look(0, 4), Integer.numberOfTrailingZeros(house.look(0, 5)), 24, 8, 0, 255, 89, 2,
            house.look(0, 2), house.look(0, 3), 0, 255, 81, 3, micro >> 16, micro >> 8, micro, 0, 255, 47, 0);
        long[] strokes = strokes(script);
        for (int v = 0; v < voices; v++) {
            ByteArrayOutputStream track = new ByteArrayOutputStream();
            byte[] name = new java.math.BigInteger(String.valueOf(house.name(0, v))).toByteArray();
            put(track, 0, 255, 3, name.length);
            track.writeBytes(name);
            put(track, 0, 192 + v, house.voice(0, v, 1));
            long tick = 0;
            boolean first = true;
            for (int n = 0; n < strokes.length; n += 4) {
                if (strokes[n + 1] == v) {
                    put(track, delta(strokes[n] - tick));
                    if (first) {
                        put(track, 144 + v);
                    }
                    put(track, (int) strokes[n + 2], (int) strokes[n + 3]);
                    first = false;
                    tick = strokes[n];
                }
            }
            put(track, 0, 255, 47, 0);
            put(out, 'M', 'T', 'r', 'k', track.size() >> 24, track.size() >> 16, track.size() >> 8, track.size());
            out.writeBytes(track.toByteArray());
        }
        return out.toByteArray();
    }

    private static void wholeFiles() {
        String[] texts = {VOICE + "c4}", VOICE + "r:1}", "key -7 minor time 12/16 tempo 20 voice abcdefgh treble 3{r:1 c4:32' slow 8/1{r:1} <c4 e4 g4>:4^}voice z bass 0{slow 8/1{r:1} r:1 r:32 r:4}",
            "voice a bass 0{c4 r:2}voice b bass 1{r:4 c4 r}voice c bass 2{r:2 c4:4}voice d bass 3{c4%~ c4:2}", VOICE + "c4:1% ".repeat(30) + "}"};
        for (String text : texts) {
            Script script = performed(text).then(house -> house.file(0));
            byte[] want = fileOf(script);
            CHECKS.due("file of " + text, script.ask(house -> house.file(0)), want.length);
            List<ToLongFunction<StaveHouse>> questions = new ArrayList<>();
            for (int n = 0; n <= want.length; n++) {
                int at = n;
                questions.add(house -> house.out(at));
            }
            long[] got = script.ask(questions);
            for (int n = 0; n <= want.length; n++) {
                CHECKS.due("byte " + n + " of " + text, got[n], n < want.length ? want[n] & 255 : -1);
            }
        }
    }

    /** "144 + v (left out if the STROKE before was in this TRACK)". */
    private static void statusOnce() {
        StaveHouse house = performed("voice a bass 0{c4- r c4-}voice b bass 0{r c4- r}").made();
        CHECKS.due("one status in each track", house.file(0), 47 + (8 + 5 + 3 + 1 + 4 * 3 + 4) + (8 + 5 + 3 + 1 + 2 * 3 + 4));
    }

    /** "Byte i of what was written latest (a file, a text); NONE if there is none". */
    private static void out() {
        StaveHouse house = performed(VOICE + "c4}").made();
        for (int i : new int[] {Integer.MIN_VALUE, -1, 0, 1, Integer.MAX_VALUE}) {
            CHECKS.due("out(" + i + ") of nothing", house.out(i), -1);
        }
        int size = house.file(0);
        CHECKS.due("out(0)", house.out(0), 'M');
        CHECKS.due("out(size - 1)", house.out(size - 1), 0);
        CHECKS.due("out(size - 2)", house.out(size - 2), 47);
        CHECKS.due("bytes are 0 .. 255", house.out(23), 255);
        for (int i : new int[] {Integer.MIN_VALUE, -1, size, size + 1, Integer.MAX_VALUE}) {
            CHECKS.due("out(" + i + ")", house.out(i), -1);
        }
        CHECKS.readAt(house, 1, VOICE + "c4 d4 e4}");
        house.perform(1);
        int more = house.file(1);
        CHECKS.due("the later one", house.out(more - 1), 0);
        CHECKS.due("the first again", house.file(0), size);
        CHECKS.due("nothing is left of the longer one", house.out(size), -1);
        house.again();
        house.open();
        int text = house.down(4);
        CHECKS.due("a text", house.out(0), 'k');
        CHECKS.due("its end", house.out(text - 1), 10);
        CHECKS.due("no more", house.out(text), -1);
    }

    /** "in the stead of what it had"; "NONE, and the tape stays, if that was nothing, or more than 3000". */
    private static void again() {
        StaveHouse house = performed(VOICE + "c4}").made();
        Checks.put(house, VOICE + "d4}");
        CHECKS.due("nothing was written", house.again(), -1);
        CHECKS.due("the tape stays", house.end(0), 21);
        CHECKS.due("and is read", house.read(1), 0);
        int size = house.file(0);
        CHECKS.due("upon an empty tape", house.again(), size);
        CHECKS.due("again", house.again(), size);
        CHECKS.due("how many it has", house.end(0), size);
        CHECKS.due("bytes come behind it", house.end(20), size + 20);
        CHECKS.due("in their stead", house.again(), size);
        CHECKS.due("it is what was written", house.open(), 0);
        CHECKS.due("it is open", house.track(7), 1);
        // 3000 and 3001 bytes: 47 and 8, 4 and the name, 3, 1 and three to a stroke, 4; some deltas have two
        String[] names = {"abcde", "abcdef"};
        for (int n = 0; n < 2; n++) {
            Script script = performed("voice " + names[n] + " treble 0 {" + "c4:1% ".repeat(15) + "c4:4%}").then(made -> made.file(0)).text("stays").then(StaveHouse::again);
            int more = n;
            CHECKS.due("bytes", script.ask(made -> made.file(0)), 3000 + more);
            CHECKS.due("again", script.ask(StaveHouse::again), n == 0 ? 3000 : -1);
            CHECKS.due("the tape", script.ask(made -> made.end(0)), n == 0 ? 3000 : 5);
            CHECKS.due("what was written stays", script.ask(made -> made.out(2999)), n == 0 ? 0 : 47);
        }
    }

    /** "the sum over all SOUNDS .. of TICKS (up to where it ends) .. the greatest, of several the first; none without SOUNDS". */
    private static void keyHeard() {
        String[] tones = {"c4", "c#4", "d4", "d#4", "e4", "f4", "f#4", "g4", "g#4", "a4", "a#4", "b4"};
        for (int n = 0; n < 12; n++) {
            String five = tones[n] + " " + tones[(n + 4) % 12] + " " + tones[(n + 7) % 12] + " " + tones[n] + ":2 ";
            CHECKS.due("major of " + tones[n], CHECKS.house(VOICE + five + "}").look(0, 9), n);
            String minor = tones[n] + " " + tones[(n + 3) % 12] + " " + tones[(n + 7) % 12] + " " + tones[n] + ":2 ";
            CHECKS.due("minor of " + tones[n], CHECKS.house(VOICE + minor + "}").look(0, 9), n + 12);
        }
        CHECKS.due("without sounds", CHECKS.house(VOICE + "r}").look(0, 9), -1);
        // how long they sound counts: e flat, cut short, has less than e
        CHECKS.due("with -", CHECKS.house(VOICE + "c4:1 g4 <eb4 a4>:2' e4:2-}").look(0, 9), 0);
        CHECKS.due("with '", CHECKS.house(VOICE + "c4:1 g4 eb4:2- <e4 a4>:2'}").look(0, 9), 12);
    }
}
