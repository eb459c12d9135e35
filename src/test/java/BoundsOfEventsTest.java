import java.util.Random;

/** Parts II and III, sentence by sentence: pitches that there are no more, lengths, counts, places of events, and their faults. */
public final class BoundsOfEventsTest {
    private static final Checks CHECKS = new Checks();
    private static final String VOICE = "voice v treble 0 {";
    private static final String LETTERS = "cdefgab";
    private static final String[] SIGNS = {"bb", "b", "", "#", "##"};
    private static final int[] NATURALS = {0, 2, 4, 5, 7, 9, 11};

    public static void main(String[] args) {
        movedAndMirrored();
        movedAgain();
        slowed();
        aboveEight();
        bracketsAround();
        nearestLength();
        alternatives();
        mostEvents();
        hundredthBar();
        itemsOfAllSorts();
        itemsOfEachVoice();
        stepsOfChords();
        barLines();
        noEvents();
        bracketsInBars();
        bracketsBehindOneAnother();
        tiesAndSlurs();
        backs();
        slursTurned();
        ends();
        barsBegun();
        orderOfFaults();
        CHECKS.finish();
    }

    private static void right(String text) {
        CHECKS.dueFault(0, text);
    }

    private static void wrong(int fault, String text) {
        CHECKS.dueFault(fault, text);
    }

    private static String pitch(int step, int alteration) {
        return LETTERS.charAt(step % 7) + SIGNS[alteration + 2] + step / 7;
    }

    private static int tone(int step, int alteration) {
        return 12 * (step / 7 + 1) + NATURALS[step % 7] + alteration;
    }

    /** The alteration with which a step has a tone; 9 if it is no pitch. */
    private static int alteration(int step, int tone) {
        if (step < 0 || step > 62) {
            return 9;
        }
        int alteration = tone - tone(step, 0);
        return Math.abs(alteration) > 2 ? 9 : alteration;
    }

    private static void duePitch(String ahead, String told, int step, int tone) {
        int alteration = alteration(step, tone);
        if (alteration == 9) {
            wrong(9, VOICE + ahead + "@" + told + "}}");
            return;
        }
        StaveHouse house = CHECKS.house(VOICE + ahead + told + "}}");
        CHECKS.due("step of " + ahead + told, house.pitch(0, 0, 0, 0, 0), step);
        CHECKS.due("alteration of " + ahead + told, house.pitch(0, 0, 0, 0, 1), alteration);
        CHECKS.due("tone of " + ahead + told, house.pitch(0, 0, 0, 0, 2), tone);
    }

    /** "Either has no meaning if there is no such PITCH (STEP 0 .. 62, ALTERATION -2 .. 2)". */
    private static void movedAndMirrored() {
        for (int step = 0; step < 63; step++) {
            // to the steps -1, 0, 62, 63 and past them
            duePitch("move d4 c4{", pitch(step, 0), step - 1, tone(step, 0) - 2);
            duePitch("move c4 d4{", pitch(step, 0), step + 1, tone(step, 0) + 2);
            duePitch("move c4 c8{", pitch(step, 0), step + 28, tone(step, 0) + 48);
            duePitch("move b8 c0{", pitch(step, 0), step - 62, tone(step, 0) - 107);
            duePitch("mirror f4{", pitch(step, 0), 62 - step, 2 * tone(31, 0) - tone(step, 0));
            duePitch("mirror e4{", pitch(step, 0), 60 - step, 2 * tone(30, 0) - tone(step, 0));
            duePitch("mirror g4{", pitch(step, 0), 64 - step, 2 * tone(32, 0) - tone(step, 0));
        }
        Random random = new Random(7);
        for (int n = 0; n < 1500; n++) {
            int[] row = new int[6];
            for (int i = 0; i < 6; i += 2) {
                row[i] = random.nextInt(63);
                row[i + 1] = random.nextInt(5) - 2;
            }
            String told = pitch(row[0], row[1]);
            int from = tone(row[2], row[3]);
            int to = tone(row[4], row[5]);
            duePitch("move " + pitch(row[2], row[3]) + " " + pitch(row[4], row[5]) + "{", told, row[0] + row[4] - row[2],
                tone(row[0], row[1]) + to - from);
            duePitch("mirror " + pitch(row[2], row[3]) + "{", told, 2 * row[2] - row[0], 2 * from - tone(row[0], row[1]));
        }
    }

    /** "A PITCH that has no meaning behind one of its move's and mirror's is 9, whatever the next one would make of it". */
    private static void movedAgain() {
        right(VOICE + "move c4 c3{move c4 c5{b7}}}");
        wrong(9, VOICE + "move c4 c3{move c4 c5{@c8}}}");
        wrong(9, VOICE + "move d4 c4{move c4 d4{@b8}}}");
        wrong(9, VOICE + "move c4 d4{move d4 c4{@c0}}}");
        right(VOICE + "move d4 c4{move c4 d4{a8}} move c4 d4{move d4 c4{d0}}}");
        // an alteration of 3 in between
        wrong(9, VOICE + "move c#4 c4{move c4 c#4{@c##4}}}");
        right(VOICE + "move c4 c#4{move c#4 c4{c##4}}}");
        wrong(9, VOICE + "move c4 c#4{move c#4 c4{@cbb4}}}");
        wrong(9, VOICE + "mirror c0{mirror c0{@d0}}}");
        right(VOICE + "mirror c0{mirror c0{c0}}}");
        wrong(9, "let m={move c4 c5{@c8}}" + VOICE + "move c5 c4{use m}}");
        wrong(9, "let m={@c8}" + VOICE + "move c4 c5{use m}}");
    }

    /** "12 .. its VALUE times the slow's is no multiple of 1/128, or above 8". */
    private static void slowed() {
        for (int number = 1; number <= 32; number *= 2) {
            for (int points = 0; points < 3; points++) {
                int value = new int[] {4, 6, 7}[points] * 128 / number;
                String told = "c4:" + number + ".".repeat(points);
                for (int above = 1; above <= 8; above++) {
                    for (int below = 1; below <= 8; below++) {
                        String slow = "slow " + above + "/" + below + "{";
                        boolean has = value * above % (4 * below) == 0 && value * above / (4 * below) <= 8 * 128;
                        if (!has) {
                            wrong(12, VOICE + slow + "@" + told + "}}");
                            continue;
                        }
                        StaveHouse house = CHECKS.house(VOICE + slow + told + "}}");
                        long length = 128 * house.event(0, 0, 0, 2) / house.event(0, 0, 0, 3);
                        CHECKS.due("length of " + slow + told, length, value * above / (4 * below));
                    }
                }
            }
        }
    }

    private static void aboveEight() {
        // 1023 is no product of small numbers: 1024 / 128 are 8, 1008 less, 1029 the next that is more
        right(VOICE + "slow 8/1{c4:1}}");
        right(VOICE + "slow 6/1{slow 3/4{c4:1..}}}");
        wrong(12, VOICE + "slow 7/1{slow 7/4{slow 7/8{@c4:2.}}}}");
        wrong(12, VOICE + "slow 7/1{slow 7/4{slow 7/8{@r:2.}}}}");
        wrong(12, VOICE + "slow 3/1{slow 3/1{@c4:1}}}");
        // what is above 8, or no multiple, in between doesn't count: all slow's together are asked
        right(VOICE + "slow 8/1{slow 8/1{slow 1/8{c4:1}}}}");
        right(VOICE + "slow 1/8{slow 1/8{slow 8/1{slow 8/1{c4:32}}}}}");
        right(VOICE + "slow 1/3{slow 3/1{c4:32}}}");
        wrong(12, VOICE + "slow 1/3{slow 2/1{@c4:32}}}");
        wrong(12, VOICE + "slow 1/8{slow 1/8{slow 8/1{slow 4/1{slow 1/4{@c4:32}}}}}}");
        // brackets are not asked: 1/128 and less within them
        right(VOICE + "[8/1:slow 1/4{c4:32 c4 c4 c4 c4 c4 c4 c4}]}");
        right("let m={slow 1/2{c4:32}}" + VOICE + "slow 1/2{use m}}");
        wrong(12, "let m={slow 1/2{@c4:32}}" + VOICE + "slow 1/4{use m}}");
    }

    /** "or more than two [ are around it (also by use)". */
    private static void bracketsAround() {
        String four = "c4:32 c4 c4 c4";
        right(VOICE + four + "}");
        right(VOICE + "[2/1:" + four + "]}");
        right(VOICE + "[2/1:[2/1:" + four + "]]}");
        wrong(12, VOICE + "[2/1:[2/1:[2/1:@" + four + "]]]}");
        right(VOICE + "c4 [2/1:[2/1:[2/1:]]]}");
        wrong(12, VOICE + "[2/1:[2/1:c4:4 [2/1:@r]]]}");
        wrong(12, VOICE + "[2/1:[2/1:repeat 2{back{[2/1:@<c4 d4>]}}]]}");
        right("let m={[2/1:" + four + "]}" + VOICE + "[2/1:use m]}");
        wrong(12, "let m={[2/1:@" + four + "]}" + VOICE + "[2/1:[2/1:use m]]}");
        wrong(12, "let m={[2/1:@" + four + "]}let n={[2/1:use m]}" + VOICE + "[2/1:use n]}");
        wrong(12, "let m={@" + four + "}" + VOICE + "[2/1:[2/1:[2/1:use m]]]}");
    }

    /** "where no LENGTH stands that of the nearest LENGTH ahead of it in the TEXT .. (the quarter, if there is none)". */
    private static void nearestLength() {
        StaveHouse house = CHECKS.house("let m={c4:8}let n={c4 d4:2 e4}voice v treble 0{use m c4 use n c4 r:16. c4}voice w bass 0{"
            + "c4 d4:8 e4:2 f4 r:8.. r:32 r:4. r:16}");
        int[] above = {1, 1, 1, 1, 1, 1, 3, 3};
        int[] below = {8, 4, 4, 2, 2, 4, 32, 32};
        for (int i = 0; i < above.length; i++) {
            CHECKS.due("length of " + i, house.event(0, 0, i, 2), above[i]);
            CHECKS.due("length of " + i, house.event(0, 0, i, 3), below[i]);
        }
        CHECKS.due("the quarter in the next voice", house.event(0, 1, 0, 3), 4);
        // in each let the quarter again, whatever stood in the one ahead of it
        StaveHouse lets = CHECKS.house("let m={c4:32}let n={c4}" + VOICE + "use m use n}");
        CHECKS.due("the first let's", lets.event(0, 0, 0, 3), 32);
        CHECKS.due("the second let's", lets.event(0, 0, 1, 3), 4);
        // a length within a repeat is the nearest one behind it, gone through or not
        StaveHouse text = CHECKS.house(VOICE + "repeat 2{c4 d4:8}alt{e4}{f4:2}{g4:16} a4}");
        int[] want = {4, 8, 8, 4, 8, 2, 16};
        for (int i = 0; i < want.length; i++) {
            CHECKS.due("below of " + i, text.event(0, 0, i, 3), want[i]);
        }
    }

    /** "with alt the k-th time (from 1 on) the k-th MUSIC behind alt comes behind it (the last one, if there are fewer)". */
    private static void alternatives() {
        String alts = "{d4}{e4}{f4}{g4}{a4}";
        for (int times = 2; times <= 4; times++) {
            for (int musics = 1; musics <= 5; musics++) {
                StaveHouse house = CHECKS.house(VOICE + "repeat " + times + "{c4}alt" + alts.substring(0, 4 * musics) + "}");
                CHECKS.due("events", house.voice(0, 0, 2), 2 * times);
                for (int k = 0; k < times; k++) {
                    CHECKS.due("step", house.pitch(0, 0, 2 * k + 1, 0, 0), 29 + Math.min(k, musics - 1));
                }
            }
        }
    }

    /** "8, there: it would be the 201st EVENT of the VOICE". */
    private static void mostEvents() {
        String hundred = "repeat 4{repeat 4{c4:32 c4 c4 c4 c4 c4} c4 c4 c4 c4}";
        // 4 * (24 + 4) = 112 events; 88 more are right
        String few = VOICE + hundred + "c4 ".repeat(87);
        CHECKS.due("199 events", CHECKS.house(few + "}").voice(0, 0, 2), 199);
        CHECKS.due("200 events", CHECKS.house(few + "c4}").voice(0, 0, 2), 200);
        wrong(8, few + "c4 @c4}");
        wrong(8, few + "c4 @r}");
        wrong(8, few + "c4 @<c4 d4>}");
        wrong(8, few + "back{c4 @d4}}");
        wrong(8, few + "repeat 2{@c4}}");
        wrong(8, "let m={@c4}" + few + "c4 use m}");
        // of each voice
        right(few + "c4}" + few.replace("voice v", "voice w") + "c4}");
        wrong(8, few + "c4}" + few.replace("voice v", "voice w") + "c4 @c4}");
    }

    /** "or would end behind the hundredth bar". */
    private static void hundredthBar() {
        for (int below = 2; below <= 16; below *= 2) {
            for (int above = 1; above <= 12; above++) {
                String text = "time " + above + "/" + below + " " + VOICE + fill(100 * above * 128 / below);
                StaveHouse house = CHECKS.house(text + "}");
                CHECKS.due("bars of " + text, house.look(0, 1), 100);
                wrong(8, text + "slow 1/4{@r:32}}");
                wrong(8, text + "back{slow 1/4{@c4:32}}}");
            }
        }
        String most = "time 1/16 " + VOICE + "slow 5/1{slow 5/4{r:1}}";
        right(most + "}");
        wrong(8, most + "[9/1:slow 1/4{@c4:32}]}");
        right("time 1/16 " + VOICE + "slow 6/1{r:1} r:4}");
        wrong(8, "time 1/16 " + VOICE + "slow 6/1{r:1} slow 1/4{r:32} @r:4}");
    }

    /** Rests that come to so many 128ths, none of them above 8 wholes. */
    private static String fill(int left) {
        StringBuilder text = new StringBuilder();
        int rest = left;
        for (; rest >= 1024; rest -= 1024) {
            text.append("slow 8/1{r:1}");
        }
        String[] parts = {"slow 4/1{r:1}", "slow 2/1{r:1}", "r:1 ", "r:2 ", "r:4 ", "r:8 ", "r:16 ", "r:32 ", "slow 1/2{r:32}", "slow 1/4{r:32}"};
        for (int n = 0; n < parts.length; n++) {
            if (rest >= 512 >> n) {
                text.append(parts[n]);
                rest -= 512 >> n;
            }
        }
        return text.toString();
    }

    /** "8, at its first TOKEN: it would be the 5001st ITEM"; "|, !, [, repeat, use and all other parts of MUSIC are ITEMS, too". */
    private static void itemsOfAllSorts() {
        String lets = "let e={}let m = {" + "!p ".repeat(245) + "}";
        // 1 + 3753 + 5 * 246 = 4984, and 14 more
        String most = lets + VOICE + "c4:1 repeat 4{repeat 4{repeat 4{repeat 4{repeat 4{!f !p}}}}}" + "use m ".repeat(5);
        String ahead = most + "!p ".repeat(14);
        for (String item : new String[] {"|", "!p ", "[2/2:]", "use e ", "move c4 d4{}", "mirror c4{}", "back{}", "slow 1/1{}", "r:1 ", "c4:1 ", "<c4 d4>:1 "}) {
            right(ahead + item + "}");
            right(ahead + item + item + "}");
            wrong(8, ahead + item + item + "@" + item + "}");
        }
        // a repeat counts itself, and each music that is begun, at repeat
        right(most + "!p ".repeat(13) + "repeat 2{}}");
        wrong(8, ahead + "@repeat 2{}}");
        wrong(8, ahead + "| @repeat 2{}}");
        wrong(8, ahead + "| | @repeat 2{}}");
        right(most + "!p ".repeat(11) + "repeat 4{}}");
        wrong(8, most + "!p ".repeat(12) + "@repeat 4{}}");
        right(most + "!p ".repeat(11) + "repeat 2{}alt{}}");
        wrong(8, most + "!p ".repeat(12) + "@repeat 2{}alt{}{}}");
        wrong(8, ahead + "back{| @|}}");
        wrong(8, ahead + "[2/2:!p @!p]}");
        wrong(8, lets.replace("let e={}", "let e={@!p}") + (ahead + "|use e}").substring(lets.length()));
        // ahead of all else of that item: 12, 9, 7 would be wrong, too
        wrong(8, ahead + "| slow 1/8{@r:32}}");
        wrong(8, ahead + "c4:2 c4:4 @| }");
        wrong(8, ahead + "| | @<c4 c4>}");
    }

    /** "the 5001st ITEM that is gone through in this VOICE". */
    private static void itemsOfEachVoice() {
        String music = "{c4:1 repeat 4{repeat 4{repeat 4{repeat 4{repeat 4{!f !p}}}}}}";
        right("voice a bass 0" + music + "voice b bass 0" + music + "voice c bass 0" + music + "voice d bass 0" + music);
    }

    /** "9, at the PITCH: .. a second PITCH of a chord has a STEP that one of it has (as they come to be, in their order)". */
    private static void stepsOfChords() {
        wrong(9, VOICE + "<c4 @c4>}");
        wrong(9, VOICE + "<c4 @cb4>}");
        wrong(9, VOICE + "<c4 d4 e4 f4 g4 @c##4>}");
        wrong(9, VOICE + "<c4 d4 @d4 c4>}");
        right(VOICE + "<c4 c5 b#3 dbb4>}");
        wrong(9, VOICE + "move c4 c5{<c7 @c8 c7>}}");
        wrong(9, VOICE + "move c4 c5{<c7 @c7 c8>}}");
        wrong(9, "let m={<c4 @c#4>}" + VOICE + "use m}");
    }

    /** "7, at |, not within a back: the place that is come to is not at a bar's beginning". */
    private static void barLines() {
        right(VOICE + "|c4:1|}");
        wrong(7, VOICE + "slow 1/4{r:32}@|}");
        wrong(7, VOICE + "c4:2.. r:16 r:32 slow 1/2{r:32} slow 1/4{r:32}@|}");
        right(VOICE + "c4:2.. r:16 r:32 slow 1/2{r:32} slow 1/4{r:32} slow 1/4{r:32}|}");
        right("time 1/16 " + VOICE + "c4:16|r:1|r:8.|}");
        wrong(7, "time 3/4 " + VOICE + "c4:1@|}");
        right("time 3/4 " + VOICE + "c4:2.|c4:1.|}");
        right(VOICE + "back{c4:4|d4:2|}r:4|}");
        right("let m={|}" + VOICE + "back{c4 use m}}");
        wrong(7, "let m={@|}" + VOICE + "back{c4}use m}");
        right(VOICE + "[3/2:c4:2 c4 c4|]|}");
        wrong(7, VOICE + "[3/2:c4:2 c4@|c4]}");
    }

    /** "15, at voice: it has no EVENTS". */
    private static void noEvents() {
        wrong(15, "let m={c4}@" + VOICE + "}");
        wrong(15, "let m={}@" + VOICE + "use m repeat 4{}alt{} back{} [2/1:] slow 1/1{} move c4 d4{} mirror c4{} ! p |}");
        wrong(15, VOICE + "c4}@voice w bass 0{}");
        wrong(15, "@" + VOICE + "repeat 2{}alt{}{}{c4}}");
        right(VOICE + "r}");
    }

    /** "13, at the [: the EVENTS of an outermost [ .. are not all in one bar, or come to no multiple of 1/128 together". */
    private static void bracketsInBars() {
        // up to the bar's end, and one 128th beyond it
        right(VOICE + "[3/2:c4:2 c4 c4]}");
        right(VOICE + "c4:2.. [3/2:c4:16 c4 c4]}");
        wrong(13, VOICE + "c4:2.. slow 1/4{c4:32} @[3/2:c4:16 c4 c4]}");
        right(VOICE + "c4:1 [3/2:c4:16 c4 c4]}");
        wrong(13, VOICE + "@[2/1:c4:1 c4 slow 1/2{c4:32}]}");
        right(VOICE + "[2/1:c4:1 c4:2 c4]}");
        wrong(13, VOICE + "c4:2. @[9/8:c4:1]}");
        wrong(13, "time 1/16 " + VOICE + "@[2/1:c4:4]}");
        // multiples of 1/128, and halves and thirds of it
        right(VOICE + "[3/1:slow 1/4{c4:32 c4 c4}]}");
        wrong(13, VOICE + "@[3/1:slow 1/4{c4:32 c4}]}");
        wrong(13, VOICE + "@[6/1:slow 1/4{c4:32 c4 c4}]}");
        right(VOICE + "[6/1:slow 1/4{c4:32 c4 c4 c4 c4 c4}]}");
        right(VOICE + "[9/1:[9/1:repeat 3{repeat 3{slow 1/4{c4:32 c4 c4 c4 c4 c4 c4 c4 c4}}}]]}");
        wrong(13, VOICE + "@[9/1:[9/1:repeat 3{repeat 3{slow 1/4{c4:32 c4 c4 c4 c4 c4 c4 c4}}}]]}");
        // the outermost one alone is asked, and one without events isn't
        right(VOICE + "[3/2:[5/4:c4:8] [5/4:c4:8 c4 c4 c4] c4:4]}");
        right(VOICE + "c4 [3/2:]}");
        // each time
        wrong(13, VOICE + "repeat 4{@[3/2:c4:8 c4 c4] r:16}}");
        right(VOICE + "repeat 4{[3/2:c4:8 c4 c4] r:4}}");
        wrong(13, "let m={@[3/2:c4:8 c4 c4]}" + VOICE + "use m c4:2 r:8 use m}");
    }

    private static void bracketsBehindOneAnother() {
        // an event behind a bracket is in none: it may go over the bar's end
        StaveHouse house = CHECKS.house(VOICE + "[3/2:c4:8 c4 c4] c4:1 r:2.}");
        CHECKS.due("notes", house.voice(0, 0, 3), 6);
        CHECKS.due("till the bar's end", house.note(0, 0, 3, 4) * 10 + house.note(0, 0, 3, 5), 11);
        CHECKS.due("the rest of it", house.note(0, 0, 4, 1), 1);
        // two brackets one behind the other are two
        right("time 2/4 " + VOICE + "[3/2:c4:4 c4 c4][3/2:c4:4 c4 c4]}");
        wrong(13, VOICE + "@[3/2:c4:8 c4] [3/2:c4:8]}");
    }

    /** "10, at the TOKEN: ~ where no EVENT follows .."; "11, at the TOKEN: ( where one is open, ) where none is"; "one is open at the end". */
    private static void tiesAndSlurs() {
        wrong(10, VOICE + "c4 @<d4 e4>~}");
        wrong(10, VOICE + "@<c4 d4>~ <c#4 db4>}");
        right(VOICE + "<c4 d4>~ <c#4 d4>}");
        wrong(10, VOICE + "@c4~ r c4}");
        wrong(10, VOICE + "repeat 2{@c4~}}");
        right(VOICE + "repeat 2{c4~} c4}");
        wrong(11, VOICE + "@c4)}");
        right(VOICE + "c4( c4)}");
        wrong(11, VOICE + "c4( c4) @c4)}");
        wrong(11, VOICE + "c4( @c4( c4)}");
        right(VOICE + "c4( c4)( c4)( c4)}");
        wrong(11, VOICE + "@c4)( c4)}");
        wrong(11, "@" + VOICE + "c4(}");
        wrong(11, "@" + VOICE + "c4( c4)(}");
        wrong(11, VOICE + "repeat 2{@c4(}}");
        wrong(11, VOICE + "c4( c4)} @voice w bass 0{c4 c4(}");
    }

    /** "back: .. an EVENT has ~ where the one that then follows it (in the same back) had it". */
    private static void backs() {
        right(VOICE + "c4 back{}}");
        StaveHouse one = CHECKS.house(VOICE + "back{c4~} c4}");
        CHECKS.due("one event alone has none", one.event(0, 0, 0, 5), 0);
        StaveHouse three = CHECKS.house(VOICE + "back{c4~ c4~ c4~} c4}");
        long[] marks = {three.event(0, 0, 0, 5), three.event(0, 0, 1, 5), three.event(0, 0, 2, 5)};
        CHECKS.dueRow("three", marks, 1, 1, 0);
        // what follows it in an outer back counts when that one turns it
        StaveHouse within = CHECKS.house(VOICE + "back{c4~ back{c4~ c4} d4}}");
        long[] inner = {within.event(0, 0, 0, 5), within.event(0, 0, 1, 5), within.event(0, 0, 2, 5), within.event(0, 0, 3, 5)};
        CHECKS.dueRow("back in back", inner, 0, 1, 1, 0);
        // a rest that comes to have it
        wrong(10, VOICE + "back{c4~ @r}}");
        StaveHouse loud = CHECKS.house(VOICE + "back{!p c4 !f d4} e4}");
        CHECKS.due("with its own loudness", loud.event(0, 0, 0, 6), 5);
        CHECKS.due("with its own loudness", loud.event(0, 0, 1, 6), 2);
        CHECKS.due("the last one made goes on", loud.event(0, 0, 2, 6), 5);
    }

    /** "( and ) are exchanged". */
    private static void slursTurned() {
        StaveHouse house = CHECKS.house(VOICE + "back{c4( d4)( e4)'}}");
        long[] marks = {house.event(0, 0, 0, 5), house.event(0, 0, 1, 5), house.event(0, 0, 2, 5)};
        CHECKS.dueRow("turned", marks, 2 + 8, 6, 4);
        StaveHouse twice = CHECKS.house(VOICE + "back{back{c4( d4)}}}");
        CHECKS.due("twice", twice.event(0, 0, 0, 5), 2);
        wrong(11, VOICE + "c4( back{@d4)}}");
        right(VOICE + "c4( back{d4(}}");
    }

    /** "Behind all VOICES 6, at voice: the first VOICE that doesn't come to the place to which the first one comes". */
    private static void ends() {
        right(VOICE + "c4:2}voice w bass 0{r:4 r}voice x bass 0{[3/2:c4:4 c4 c4]}");
        wrong(6, VOICE + "c4:2}@voice w bass 0{r:4 r slow 1/4{r:32}}");
        wrong(6, VOICE + "c4:2}voice w bass 0{c4:2}@voice x bass 0{c4:4..}voice y bass 0{c4}");
        wrong(6, VOICE + "c4:2 slow 1/4{c4:32}}@voice w bass 0{c4:2}");
        // behind the faults of all voices
        wrong(15, VOICE + "c4}voice w bass 0{c4:2}@voice x bass 0{}");
    }

    /** "BARS: .. as many as are begun". */
    private static void barsBegun() {
        String[] musics = {"slow 1/4{r:32}", "r:1", "r:1 slow 1/4{r:32}", "r:1 r:2.. r:16 r:32 slow 1/2{r:32} slow 1/4{r:32}", "r:1 r:1", "r:1 r:1 r:32"};
        int[] bars = {1, 1, 2, 2, 2, 3};
        for (int n = 0; n < bars.length; n++) {
            CHECKS.due("bars of " + musics[n], CHECKS.house(VOICE + musics[n] + "}").look(0, 1), bars[n]);
        }
        CHECKS.due("of 5 / 16", CHECKS.house("time 5/16 " + VOICE + "r:4}").look(0, 1), 1);
        CHECKS.due("of 3 / 16", CHECKS.house("time 3/16 " + VOICE + "r:4}").look(0, 1), 2);
        CHECKS.due("of 12 / 2", CHECKS.house("time 12/2 " + VOICE + "slow 6/1{r:1} r:32}").look(0, 1), 2);
    }

    /** "of each as it is gone through (of one EVENT in this order)"; "of its EVENTS in order (of one EVENT in this order)". */
    private static void orderOfFaults() {
        String full = VOICE + "repeat 4{repeat 4{repeat 4{c4:32 c4 c4}}} c4 c4 c4 c4 c4 c4 c4 c4 ";
        wrong(12, full + "slow 1/8{@<c4 c4>}}");
        wrong(8, full + "@<c4 c4>}");
        // what was gone through comes ahead of what is judged behind it, in earlier events, too
        wrong(9, VOICE + "c4) d4~ <c4 @c4>}");
        wrong(10, VOICE + "@c4)~ d4}");
        wrong(11, VOICE + "@c4) d4~ e4}");
        wrong(10, VOICE + "@c4~ d4)}");
        wrong(13, VOICE + "@[3/2:c4)~ d4]}");
        wrong(11, VOICE + "@c4) [3/2:c4]}");
        wrong(13, VOICE + "c4( @[3/2:c4] c4)}");
        // one open at the end comes behind the faults of all its events
        wrong(10, VOICE + "c4( @d4~ e4}");
        wrong(13, VOICE + "c4( @[3/2:c4]}");
    }
}
