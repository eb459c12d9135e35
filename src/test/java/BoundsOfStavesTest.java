import java.util.ArrayList;
import java.util.HashSet;
import java.util.List;
import java.util.Set;
import java.util.function.ToLongFunction;

/** Part IV and promises 10 to 13, sentence by sentence: the bounds of notes, of lines, and the most of them that there can be. */
public final class BoundsOfStavesTest {
    private static final Checks CHECKS = new Checks();
    private static final String VOICE = "voice v treble 0 {";
    private static final String[] CLEFS = {"treble", "bass", "alto", "tenor"};
    private static final int[] LOWEST = {30, 18, 24, 22};

    public static void main(String[] args) {
        lastBarNotFull();
        wholeBarsOfRest();
        leastValues();
        greatestValues();
        withinBrackets();
        heldOnFromTheFirst();
        knownInEachBar();
        extremeSteps();
        heightsAndStems();
        beamsFromFormThree();
        beamsByBeat();
        stemsOfGroups();
        mostNotes();
        widthsOfColumns();
        boundsOfWidths();
        linesOfTwoBars();
        lastLine();
        mostLines();
        mostColumns();
        columnsOfLines();
        CHECKS.finish();
    }

    private static void dueAll(String text, int what, long... want) {
        StaveHouse house = CHECKS.house(text);
        long[] got = new long[house.voice(0, 0, 3)];
        for (int i = 0; i < got.length; i++) {
            got[i] = house.note(0, 0, i, what);
        }
        CHECKS.dueRow(text + " asked for " + what, got, want);
    }

    private static void dueForms(String text, long... want) {
        StaveHouse house = CHECKS.house(text);
        long[] got = new long[house.voice(0, 0, 3)];
        for (int i = 0; i < got.length; i++) {
            got[i] = 10 * house.note(0, 0, i, 4) + house.note(0, 0, i, 5);
        }
        CHECKS.dueRow(text, got, want);
    }

    /** "its EVENTS, and, where its last bar is not full, a rest more till there". */
    private static void lastBarNotFull() {
        dueAll(VOICE + "c4:1}", 0, 0);
        dueAll(VOICE + "c4:1 c4:1}", 0, 0, 1);
        dueForms(VOICE + "c4:2.. r:16 r:32 slow 1/2{r:32} slow 1/4{r:32}}", 12, 40, 50, 60, 70, 70);
        dueAll(VOICE + "c4:2.. r:16 r:32 slow 1/2{r:32} slow 1/4{r:32}}", 0, 0, 1, 2, 3, 4, -1);
        dueForms(VOICE + "slow 1/4{c4:32}}", 70, 52, 22, 10);
        dueAll("time 12/2 " + VOICE + "slow 1/4{c4:32}}", 0, 0, -1, -1, -1, -1, -1, -1, -1);
    }

    /** "if it is a rest, not within a [, and a whole bar: one NOTE (the FORM 9)"; "Each whole bar that a cut gives a rest is FORM 9". */
    private static void wholeBarsOfRest() {
        dueForms("time 3/4 " + VOICE + "r:2.}", 90);
        dueForms("time 3/4 " + VOICE + "c4:2.}", 11);
        dueForms("time 3/4 " + VOICE + "r:2 r:4}", 10, 20);
        dueForms("time 3/4 " + VOICE + "[2/1:r:1.]}", 1);
        dueForms("time 3/4 " + VOICE + "r:4 slow 7/4{r:1}}", 20, 10, 90, 10, 20);
        StaveHouse house = CHECKS.house("time 1/16 " + VOICE + "slow 5/1{slow 5/4{r:1}}}");
        CHECKS.due("notes of a hundred bars", house.voice(0, 0, 3), 100);
        for (int i = 0; i < 100; i++) {
            CHECKS.due("form of " + i, house.note(0, 0, i, 4), 9);
            CHECKS.due("points of " + i, house.note(0, 0, i, 5), 0);
            CHECKS.due("bar of " + i, house.note(0, 0, i, 1), i);
            CHECKS.due("event of " + i, house.note(0, 0, i, 0), 0);
        }
    }

    /** "FORM k (0 .. 7: 1 over 2^k) and q POINTS (0 .. 2)". */
    private static void leastValues() {
        String[] told = {":1", ":2", ":4", ":8", ":16", ":32"};
        for (int form = 0; form < 8; form++) {
            for (int points = 0; points < 3; points++) {
                // less than 1/128, or a part of it, is none
                if (form + points > 7) {
                    continue;
                }
                String length = form < 6 ? told[form] : ":32";
                String slow = form == 6 ? "slow 1/2{" : form == 7 ? "slow 1/4{" : "slow 1/1{";
                StaveHouse house = CHECKS.house("time 12/2 " + VOICE + slow + "c4" + length + ".".repeat(points) + "}}");
                CHECKS.due("form of " + form + ", " + points, house.note(0, 0, 0, 4), form);
                CHECKS.due("points of " + form + ", " + points, house.note(0, 0, 0, 5), points);
            }
        }
        dueForms(VOICE + "slow 1/4{c4:32 c4 c4 c4} slow 3/4{c4:32} slow 1/4{c4:32} slow 1/4{c4:32} slow 3/4{c4:32}}", 70, 70, 70, 70, 61, 70, 70, 61, 50, 12);
    }

    private static void greatestValues() {
        dueForms("time 4/2 " + VOICE + "slow 2/1{c4:1}}", 2, 20);
        dueForms("time 4/2 " + VOICE + "c4:1.. c4:4}", 2, 20);
    }

    /** "within a [ that isn't asked": values are chosen by what is left alone. */
    private static void withinBrackets() {
        // as long as a half that stands across the middle of the bar: not parted there
        dueForms(VOICE + "c4:4 [2/2:c4:2] c4:4}", 20, 10, 20);
        dueForms(VOICE + "c4:4 c4:2 c4:4}", 20, 20, 20, 20);
        dueForms(VOICE + "[2/2:slow 5/4{c4:2}] r:4.}", 10, 30, 21);
        dueForms(VOICE + "[3/2:slow 5/4{c4:8} slow 7/4{c4:8}] r:2.}", 30, 50, 32, 11);
        dueForms(VOICE + "[2/1:r:1 r:1]}", 0, 0);
        dueForms(VOICE + "[8/1:slow 8/1{r:1}]}", 2, 2, 2, 2, 0);
    }

    /** "HELD ON, if it is no rest and the next NOTE is of the same EVENT", of the first event, too. */
    private static void heldOnFromTheFirst() {
        dueAll(VOICE + "f#4:1. r:2}", 6, 1, 0, 0);
        dueAll(VOICE + "f#4:1. r:2}", 7, 1, 0, 0);
        dueAll(VOICE + "<c4 d4 e4 f4 g4 a4>:1. r:2}", 6, 63, 0, 0);
        dueAll(VOICE + "r:1. r:2}", 6, 0, 0, 0);
        dueAll(VOICE + "<c4 d4 e4 f4 g4 a4>:2~ <c4 d4 e4 f4 g4 a4>:2}", 6, 63, 0);
        dueAll(VOICE + "<c4 d4 e4 f4 g4 a4>:2~ <cb4 d#4 e4 f#4 gb4 a4>:2}", 6, 36, 0);
        dueAll(VOICE + "<cb4 d#4 e#4 f#4 gb4 a#4>:2~ <cb4 d#4 e4 f4 gb4 ab4>:2}", 7, 63, 4 + 8 + 32);
    }

    /** "in each bar and VOICE the staff knows an ALTERATION for each STEP, at first the KEY's". */
    private static void knownInEachBar() {
        dueAll("key 7 major " + VOICE + "c#0:4 c0 b#8 b8 c#0 b#8 c0 b8}", 7, 0, 1, 0, 1, 0, 0, 1, 1);
        dueAll("key -7 major " + VOICE + "cb0:4 c0 bb8 b8 cb0 bb8 c0 b8}", 7, 0, 1, 0, 1, 0, 0, 1, 1);
        dueAll("key 2 major " + VOICE + "c4:2 c4 c4 c#4}", 7, 1, 0, 1, 1);
        StaveHouse two = CHECKS.house("voice a treble 0{f#4:4 f#4 f4 f4}voice b treble 0{f4:4 f#4 f#4 f#4}");
        long[] first = new long[4];
        long[] second = new long[4];
        for (int i = 0; i < 4; i++) {
            first[i] = two.note(0, 0, i, 7);
            second[i] = two.note(0, 1, i, 7);
        }
        CHECKS.dueRow("one voice", first, 1, 0, 1, 0);
        CHECKS.dueRow("the other one knows nothing of it", second, 0, 1, 0, 0);
    }

    private static void extremeSteps() {
        dueAll(VOICE + "cbb0:4 cbb0 b##8 b##8}", 7, 1, 0, 1, 0);
        dueAll(VOICE + "<cbb0 b##8>:2 <c0 b##8>}", 7, 3, 1);
    }

    /** "HEIGHT of a PITCH", "LEDGERS .. above 8 (h - 8) / 2, and of its least one below 0 -h / 2", "up, if .. below 8, else down". */
    private static void heightsAndStems() {
        for (int clef = 0; clef < 4; clef++) {
            StringBuilder text = new StringBuilder("voice v " + CLEFS[clef] + " 0 {");
            for (int step = 0; step < 63; step++) {
                text.append("cdefgab".charAt(step % 7)).append(step / 7).append(' ');
            }
            StaveHouse house = CHECKS.house(text + "}");
            for (int step = 0; step < 63; step++) {
                int height = step - LOWEST[clef];
                int ledgers = height > 8 ? (height - 8) / 2 : height < 0 ? -height / 2 : 0;
                CHECKS.due("ledgers at " + height, house.note(0, 0, step, 8), ledgers);
                CHECKS.due("stem at " + height, house.note(0, 0, step, 11), 2 * height < 8 ? 1 : 2);
            }
        }
        // e4 and f5 stand at 0 and 8
        dueAll(VOICE + "<e4 f5>:4 <d4 g5> <c4 a5> <b3 b5> <a3 c6> f5 e4 r}", 8, 0, 0, 2, 2, 4, 0, 0, 0);
        dueAll(VOICE + "<e4 e5>:4 <e4 f5> <e4 g5> <e4 d5 e5>}", 11, 1, 2, 2, 1);
        dueAll(VOICE + "b4:1 b4:2 a4:2 r:1}", 11, 0, 2, 1, 0);
    }

    /** "NOTES (no rests) next to each other in one bar, of FORM 3 or more". */
    private static void beamsFromFormThree() {
        dueAll("time 6/8 " + VOICE + "c4:4 c4:8 c4 c4:4}", 9, -1, -1, -1, -1);
        dueAll("time 4/2 " + VOICE + "c4:4 c4 c4:8 c4 c4 c4 r:1}", 9, -1, -1, 0, 0, 0, 0, -1);
        dueAll("time 6/8 " + VOICE + "c4:8 c4:4 c4:8 c4 c4}", 9, -1, -1, 0, 0, 0);
        dueAll("time 4/4 " + VOICE + "c4:8 r c4 c4 r c4 c4:4}", 9, -1, -1, 0, 0, -1, -1, -1);
        // as many beams as the lesser form less 2
        dueAll("time 2/2 " + VOICE + "c4:8 c4:16 c4:32 slow 1/2{c4:32} slow 1/4{c4:32 c4 c4 c4} slow 1/2{c4:32} c4:32 c4:16 c4:8 r:2}", 10, 1, 2, 3, 4, 5,
            5, 5, 4, 3, 2, 1, 0, 0);
        // not over a bar's end
        dueAll("time 1/8 " + VOICE + "c4:16 c4 c4 c4}", 9, 0, 0, 1, 1);
        dueAll("time 1/16 " + VOICE + "c4:32 c4 c4 c4}", 9, 0, 0, 1, 1);
        dueAll("time 1/8 " + VOICE + "c4:8 c4}", 9, -1, -1);
    }

    /** "with the same FLOOR of (place in the bar by BEAT), two or more". */
    private static void beamsByBeat() {
        for (int below = 2; below <= 16; below *= 2) {
            for (int above = 1; above <= 12; above++) {
                int beat = below >= 8 && above % 3 == 0 ? 3 : below <= 4 ? 1 : 2;
                int small = 2 * below;
                int count = 2 * above;
                int unit = 2 * beat;
                if (small > 32 || small < 8) {
                    small = small < 8 ? 8 : 32;
                    count = above * small / below;
                    unit = beat * small / below;
                }
                StaveHouse house = CHECKS.house("time " + above + "/" + below + " " + VOICE + "c4:" + small + " " + "c4 ".repeat(count - 1) + "}");
                int groups = 0;
                for (int n = 0; n < count; n++) {
                    int first = n - n % unit;
                    int size = Math.min(unit, count - first);
                    CHECKS.due("group of " + n + " in " + above + "/" + below, house.note(0, 0, n, 9), size > 1 ? groups : -1);
                    groups += n == first + size - 1 && size > 1 ? 1 : 0;
                }
            }
        }
        dueAll(VOICE + "c4:8. c4:16 c4:16 c4:8 c4:16 c4:8 c4:4 c4:8}", 9, 0, 0, 1, 1, 1, 1, 2, 2, 3, 3);
        // in brackets by their exact places: the third one begins at 1/4
        dueAll(VOICE + "[3/2:c4:4 c4:8 c4 c4:4] r:2}", 9, -1, -1, -1, -1, -1);
        dueAll(VOICE + "[3/2:c4:8 c4 c4 c4 c4:4] r:2}", 9, 0, 0, 0, -1, -1, -1);
        dueAll(VOICE + "[5/4:c4:16 c4 c4 c4 c4] [5/4:c4:8 c4 c4 c4 c4] r:4}", 9, 0, 0, 0, 0, 0, 1, 1, 1, 2, 2, -1);
    }

    /** "of a GROUP: up, if all these sums less 8 each come to less than 0 together, else down". */
    private static void stemsOfGroups() {
        // b4 stands at 4: a sum of 8
        dueAll(VOICE + "b4:8 b4 a4 b4 a4 c5 a4:16 c5 b4 a4}", 11, 2, 2, 1, 1, 2, 2, 1, 1, 1, 1);
        dueAll(VOICE + "g4:8 d5 g4 e5 f4 d5 r:4}", 11, 2, 2, 2, 2, 1, 1, 0);
        dueAll(VOICE + "<g4 d5>:8 <f4 d5> <e4 g5> <e4 f5> r:2}", 11, 1, 1, 2, 2, 0);
    }

    /** "its NOTES (Part IV) are more than 800". */
    private static void mostNotes() {
        String head = "time 12/2 voice v treble 0 {slow 1/4{c4:32} repeat 4{repeat 4{" + "slow 7/4{c4:1..}".repeat(8) + "}} c4:32 c4 c4 c4 c4 ";
        StaveHouse most = CHECKS.house(head + "c4:4 c4:1}");
        CHECKS.due("800", most.voice(0, 0, 3), 800);
        CHECKS.due("the last one", most.note(0, 0, 799, 0), -1);
        CHECKS.due("none more", most.note(0, 0, 800, 0), -1);
        CHECKS.due("the last one's bar", most.note(0, 0, 799, 1), most.look(0, 1) - 1);
        CHECKS.due("lines of them", most.lines(0, 2000) > 0 ? 1 : 0, 1);
        CHECKS.due("x of the last one", most.x(0, 0, 799) > 0 ? 1 : 0, 1);
        CHECKS.due("no x behind it", most.x(0, 0, 800), -1);
    }

    private static int widthOf(String text, int column) {
        StaveHouse house = CHECKS.house(text);
        house.lines(0, 2000);
        return house.x(0, 0, column + 1) - house.x(0, 0, column);
    }

    /** "8 + 4 * e, e the greatest whole number with 2^e not above 128 * t (0, if that is below 1)". */
    private static void widthsOfColumns() {
        String[] lengths = {"slow 1/4{r:32}", "slow 1/2{r:32}", "r:32 ", "r:16 ", "r:8 ", "r:4 ", "r:2 "};
        for (int e = 0; e < lengths.length; e++) {
            CHECKS.due("width of 2^" + e, widthOf(VOICE + lengths[e] + "r:4 r:8}", 0), 8 + 4 * e);
        }
        // a whole and more
        CHECKS.due("width of 256 / 128", widthOf("time 12/2 " + VOICE + "r:1 r:1 r:1}", 0), 8 + 4 * 7);
        StaveHouse bar = CHECKS.house("time 12/2 " + VOICE + "slow 6/1{r:1}}");
        bar.lines(0, 2000);
        CHECKS.due("width of 768 / 128", bar.line(0, 0, 2), 36 + 6 + 8 + 4 * 9);
        // just below a power: 3, 7 and 15 / 128, and 128 * t = 1 7/9, 7 1/9
        CHECKS.due("width of 3", widthOf(VOICE + "slow 3/4{r:32} r:4}", 0), 8 + 4 + 3);
        CHECKS.due("width of 7", widthOf(VOICE + "r:32.. r:4}", 0), 8 + 8 + 6);
        CHECKS.due("width of 8/9 of 8", widthOf(VOICE + "[9/8:r:16 r r r r r r r r] r:2}", 0), 8 + 8);
        CHECKS.due("width of 8/9 of 2", widthOf(VOICE + "[9/8:slow 1/2{r:32 r r r r r r r r}] r:2}", 0), 8);
        CHECKS.due("width of 1/9", widthOf(VOICE + "[9/1:slow 1/4{r:32 r r r r r r r r}] r:2}", 0), 8);
        CHECKS.due("width of 2/2", widthOf(VOICE + "[2/2:slow 1/4{r:32 r r}] r:2}", 0), 8);
        // a sign, points, both; of two voices the most points, a sign once
        CHECKS.due("a sign", widthOf(VOICE + "f#4:4 r:4}", 0), 8 + 20 + 6);
        CHECKS.due("two signs", widthOf(VOICE + "<c#4 f#4>:4 r:4}", 0), 8 + 20 + 6);
        CHECKS.due("two points", widthOf(VOICE + "r:4.. r:4}", 0), 8 + 20 + 6);
        CHECKS.due("a sign and two points", widthOf(VOICE + "f#4:4.. r:4}", 0), 8 + 20 + 12);
        CHECKS.due("of two voices", widthOf("voice a treble 0{f#4:4. r:8}voice b bass 0{f#4:4.. r:16}", 0), 8 + 20 + 6 + 6);
        CHECKS.due("a sign held on is none", widthOf(VOICE + "r:2. f#4:4~ f#4:4 r:2.}", 2), 8 + 20);
    }

    /** "LINES of a WIDTH (200 .. 2000)". */
    private static void boundsOfWidths() {
        StaveHouse house = CHECKS.house(VOICE + "c4:1 c4 c4 c4}");
        for (int width : new int[] {Integer.MIN_VALUE, -200, 0, 1, 199, 2001, 2002, Integer.MAX_VALUE}) {
            CHECKS.due("lines(0, " + width + ")", house.lines(0, width), -1);
            CHECKS.due("none yet", house.look(0, 10), 0);
            CHECKS.due("no line", house.line(0, 0, 0), -1);
            CHECKS.due("no x", house.x(0, 0, 0), -1);
        }
        CHECKS.due("lines(0, 200)", house.lines(0, 200), 2);
        for (int width : new int[] {Integer.MIN_VALUE, 0, 199, 2001, Integer.MAX_VALUE}) {
            CHECKS.due("lines(0, " + width + ")", house.lines(0, width), -1);
            CHECKS.due("they stay", house.look(0, 10), 2);
            CHECKS.due("the first one's", house.line(0, 0, 1), 3);
            CHECKS.due("the x", house.x(0, 0, 3), 24 + 6);
        }
        CHECKS.due("lines(0, 2000)", house.lines(0, 2000), 1);
        CHECKS.due("lines(0, 201)", house.lines(0, 201), 2);
        CHECKS.due("its price", house.line(0, 0, 4), (201 - 162) * (201 - 162));
        CHECKS.due("lines(0, 1999)", house.lines(0, 1999), 1);
        CHECKS.due("no other piece", house.lines(1, 500), -1);
        CHECKS.due("it stays", house.look(0, 10), 1);
    }

    /** "(WIDTH - w)^2 if w isn't above WIDTH"; "for one bar alone, 4 * (w - WIDTH)^2"; "other LINES are not". */
    private static void linesOfTwoBars() {
        // four halves' bars: 36 + 70 + 70 = 176, 36 + 70 = 106; two bars of 102 come to 240
        StaveHouse house = CHECKS.house(VOICE + "c4:4 c4 c4 c4 c4 c4 c4 c4 c4:1}");
        int bar = 6 + 4 * 28;
        CHECKS.due("two as wide as the line", house.lines(0, 36 + 2 * bar), 2);
        CHECKS.due("on the first one", house.line(0, 0, 1), 2);
        CHECKS.due("its price", house.line(0, 0, 4), 0);
        CHECKS.due("two wider by one are no line", house.lines(0, 35 + 2 * bar), 2);
        CHECKS.due("on the first one", house.line(0, 0, 1), 1);
        CHECKS.due("its price", house.line(0, 0, 4), (long) (bar - 1) * (bar - 1));
        StaveHouse one = CHECKS.house(VOICE + "repeat 2{c4:16 c4 c4 c4} c4:8 c4 c4 c4 c4:1}");
        int wide = 6 + 8 * 20 + 4 * 24;
        CHECKS.due("one as wide as the line", one.lines(0, 36 + wide), 2);
        CHECKS.due("its price", one.line(0, 0, 4), 0);
        CHECKS.due("one wider by one", one.lines(0, 35 + wide), 2);
        CHECKS.due("its price", one.line(0, 0, 4), 4);
        CHECKS.due("wider by two", one.lines(0, 34 + wide), 2);
        CHECKS.due("its price", one.line(0, 0, 4), 16);
        CHECKS.due("x isn't stretched", one.x(0, 0, 11), 36 + 6 + 8 * 20 + 3 * 24);
    }

    /** "0 for the last LINE then"; "(so for the last one, too)". */
    private static void lastLine() {
        StaveHouse house = CHECKS.house(VOICE + "c4:1 repeat 2{c4:16 c4 c4 c4} c4:8 c4 c4 c4}");
        int wide = 24 + 6 + 8 * 20 + 4 * 24;
        CHECKS.due("lines", house.lines(0, wide), 2);
        CHECKS.due("the last one, as wide as the line", house.line(0, 1, 4), 0);
        CHECKS.due("x isn't stretched on it", house.x(0, 0, 1), 24 + 6);
        house.lines(0, wide + 5);
        CHECKS.due("the last one, less wide", house.line(0, 1, 4), 0);
        CHECKS.due("x isn't stretched on it", house.x(0, 0, 12), 24 + 6 + 8 * 20 + 3 * 24);
        house.lines(0, wide - 1);
        CHECKS.due("the last one, wider", house.line(0, 1, 4), 4);
        house.lines(0, wide - 3);
        CHECKS.due("the last one, wider by three", house.line(0, 1, 4), 36);
        CHECKS.due("w of it", house.line(0, 1, 2), wide);
    }

    /** A hundred bars, each on a line of its own; and all on as few as can be. */
    private static void mostLines() {
        Script script = new Script().piece(0, "time 2/2 " + VOICE + "repeat 4{repeat 4{r:2 r r r r r r r r r r r}} r:2 r r r r r r r}").then(house -> house.lines(0, 200));
        CHECKS.due("bars", script.ask(house -> house.look(0, 1)), 100);
        long lines = script.ask(house -> house.look(0, 10));
        List<ToLongFunction<StaveHouse>> questions = new ArrayList<>();
        for (int n = 0; n < 2 * lines; n++) {
            int at = n;
            questions.add(house -> house.line(0, at / 2, at % 2));
        }
        long[] got = script.ask(questions);
        long come = 0;
        for (int l = 0; l < lines; l++) {
            CHECKS.due("first bar of " + l, got[2 * l], come);
            come += got[2 * l + 1];
        }
        CHECKS.due("all bars", come, 100);
        // each bar is wider than half a line
        Script each = new Script().piece(0, "time 2/2 voice a treble 0{repeat 4{repeat 4{c#4:2 c4 c#4 c4 c#4 c4 c#4 c4 c#4 c4 c#4 c4}} c#4:2 c4 c#4 c4 c#4 c4 c#4 c4}"
            + "voice b bass 0{repeat 4{repeat 4{r:4. slow 5/4{r:2} r:4. slow 5/4{r:2} r:4. slow 5/4{r:2} r:4. slow 5/4{r:2} r:4. slow 5/4{r:2} r:4. slow 5/4{r:2}}}"
            + " repeat 4{r:4. slow 5/4{r:2}}}").then(house -> house.lines(0, 200));
        CHECKS.due("a hundred bars", each.ask(house -> house.look(0, 1)), 100);
        CHECKS.due("a hundred lines", each.ask(house -> house.look(0, 10)), 100);
        for (int l = 0; l < 100; l += 33) {
            int line = l;
            CHECKS.due("bar of " + l, each.ask(house -> house.line(0, line, 0)), l);
            CHECKS.due("one bar", each.ask(house -> house.line(0, line, 1)), 1);
            CHECKS.due("w", each.ask(house -> house.line(0, line, 2)), each.ask(house -> house.line(0, 1, 2)) + (l == 0 ? 12 : 0));
        }
        CHECKS.due("none more", each.ask(house -> house.line(0, 100, 0)), -1);
        CHECKS.due("x of the last bar's first note", each.ask(house -> house.x(0, 0, 198)), 24 + 6);
    }

    /** "A bar has COLUMNS: the places at which a NOTE of any VOICE begins in it": four voices in brackets of 9, 7, 5 and 3. */
    private static void mostColumns() {
        StringBuilder text = new StringBuilder("time 12/2 ");
        int[] sizes = {9, 7, 5, 3};
        for (int v = 0; v < 4; v++) {
            // 45/128 are three notes: a quarter, a 16th with a point, a 128th
            String bracket = "[" + sizes[v] + "/8:" + "slow 3/2{slow 5/4{c4:8.}}".repeat(sizes[v]) + "]";
            text.append("voice ").append((char) ('s' + v)).append(" bass 0{repeat 2{repeat 4{").append(bracket).append(bracket).append("r:4.}}}");
        }
        Script script = new Script().piece(0, text.toString()).then(house -> house.lines(0, 2000));
        CHECKS.due("bars", script.ask(house -> house.look(0, 1)), 8);
        Set<String> places = new HashSet<>();
        for (int v = 0; v < 4; v++) {
            int voice = v;
            long notes = script.ask(house -> house.voice(0, voice, 3));
            CHECKS.due("notes of voice " + v, notes, 8 * (2 * 3 * sizes[v] + 1));
            List<ToLongFunction<StaveHouse>> questions = new ArrayList<>();
            for (int n = 0; n < 3 * notes; n++) {
                int at = n;
                questions.add(house -> house.note(0, voice, at / 3, 1 + at % 3));
            }
            long[] got = script.ask(questions);
            for (int n = 0; n < got.length; n += 3) {
                places.add(got[n] + " " + got[n + 1] + "/" + got[n + 2]);
            }
        }
        CHECKS.due("more than 804 of them", places.size() > 804 ? 1 : 0, 1);
        long columns = 0;
        long lines = script.ask(house -> house.look(0, 10));
        for (int l = 0; l < lines; l++) {
            int line = l;
            columns += script.ask(house -> house.line(0, line, 3));
        }
        CHECKS.due("columns", columns, places.size());
        CHECKS.due("x of the last note", script.ask(house -> house.x(0, 3, 8 * 19 - 1)) > 36 ? 1 : 0, 1);
    }

    /** "FLOOR of (WIDTH - w) * c by C": as far as it goes on one line. */
    private static void columnsOfLines() {
        StaveHouse house = CHECKS.house(VOICE + "c4:4 c4 c4 c4 c4:1 r:1 repeat 4{c4:16 c4 c4 c4} repeat 4{c4:16 c4 c4 c4}}");
        int first = 36 + 6 + 4 * 28 + 2 * 42;
        for (int width : new int[] {first, first + 1, first + 5, first + 6, first + 7}) {
            house.lines(0, width);
            CHECKS.due("bars on the first line of " + width, house.line(0, 0, 1), 3);
            CHECKS.due("its columns", house.line(0, 0, 3), 6);
            int at = 36 + 6;
            for (int c = 0; c < 6; c++) {
                CHECKS.due("x of " + c + " in " + width, house.x(0, 0, c), at + (width - first) * c / 6);
                at += c < 3 ? 28 : c == 3 ? 28 + 6 : 36 + 6;
            }
        }
    }
}
