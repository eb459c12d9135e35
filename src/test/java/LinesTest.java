/** Promises 11 to 13: lines of a width, their prices, where columns stand. */
public final class LinesTest {
    private static final Checks CHECKS = new Checks();

    public static void main(String[] args) {
        widths();
        leastPrice();
        tooWide();
        equalPrices();
        columnsOfAllVoices();
        wrongAsked();
        CHECKS.finish();
    }

    private static long[] line(StaveHouse house, int l) {
        long[] row = new long[5];
        for (int what = 0; what < 5; what++) {
            row[what] = house.line(0, l, what);
        }
        return row;
    }

    private static void widths() {
        // ahead of the bars 24 + 2 * 5 + 12
        StaveHouse house = CHECKS.house("key -2 major voice v treble 0 {c4:2 d4:4 e4:16. f4:32 gb4:8}");
        CHECKS.due("lines(0, 400)", house.lines(0, 400), 1);
        int wide = 46 + 6 + (8 + 24) + (8 + 20) + (8 + 12 + 3 + 6) + (8 + 8) + (8 + 16 + 6);
        CHECKS.dueRow("one line", line(house, 0), 0, 1, wide, 5, 0);
        CHECKS.due("x of note 0", house.x(0, 0, 0), 46 + 6);
        CHECKS.due("x of note 1", house.x(0, 0, 1), 46 + 6 + 32);
        CHECKS.due("x of note 2", house.x(0, 0, 2), 46 + 6 + 32 + 28);
        CHECKS.due("x of note 3", house.x(0, 0, 3), 46 + 6 + 32 + 28 + 29);
        CHECKS.due("x of note 4", house.x(0, 0, 4), 46 + 6 + 32 + 28 + 29 + 16);
        StaveHouse small = CHECKS.house("voice v treble 0 {[9/1:c4:32 c4 c4 c4 c4 c4 c4 c4 c4] r:2..}");
        CHECKS.due("lines(0, 2000)", small.lines(0, 2000), 1);
        CHECKS.due("columns shorter than 1/128 are 8 wide", small.x(0, 0, 8) - small.x(0, 0, 0), 64);
    }

    private static void leastPrice() {
        // each bar is 6 + 36 wide; 36 and 24 stand ahead of the bars
        StaveHouse house = CHECKS.house("voice v treble 0 {" + "c4:1 ".repeat(11) + "}");
        CHECKS.due("look ahead of lines()", house.look(0, 10), 0);
        CHECKS.due("x ahead of lines()", house.x(0, 0, 0), -1);
        CHECKS.due("line ahead of lines()", house.line(0, 0, 0), -1);
        CHECKS.due("lines(0, 250)", house.lines(0, 250), 3);
        CHECKS.dueRow("line 0", line(house, 0), 0, 5, 246, 5, 16);
        CHECKS.dueRow("line 1", line(house, 1), 5, 5, 234, 5, 256);
        CHECKS.dueRow("line 2", line(house, 2), 10, 1, 66, 1, 0);
        CHECKS.due("look", house.look(0, 10), 3);
        CHECKS.due("x of bar 0", house.x(0, 0, 0), 36 + 6);
        CHECKS.due("x of bar 2, 4 * 2 / 5 more", house.x(0, 0, 2), 36 + 18 + 72 + 1);
        CHECKS.due("x of bar 5", house.x(0, 0, 5), 24 + 6);
        CHECKS.due("x of bar 9, 16 * 4 / 5 more", house.x(0, 0, 9), 24 + 30 + 144 + 12);
        CHECKS.due("x on the last line", house.x(0, 0, 10), 24 + 6);
        CHECKS.due("lines(0, 2000)", house.lines(0, 2000), 1);
        CHECKS.dueRow("one line", line(house, 0), 0, 11, 36 + 11 * 42, 11, 0);
        CHECKS.due("x on the only line", house.x(0, 0, 10), 36 + 66 + 360);
        CHECKS.due("no second line", house.line(0, 1, 0), -1);
    }

    private static void tooWide() {
        StaveHouse house = CHECKS.house("voice v treble 0 {repeat 4{c4:16 c4 c4 c4} c4:1 repeat 4{c4:16 c4 c4 c4}}");
        int bar = 6 + 16 * (8 + 12);
        CHECKS.due("lines(0, 200)", house.lines(0, 200), 3);
        long over = 36 + bar - 200;
        CHECKS.dueRow("line 0", line(house, 0), 0, 1, 36 + bar, 16, 4 * over * over);
        CHECKS.dueRow("line 1", line(house, 1), 1, 1, 66, 1, 134 * 134);
        long last = 24 + bar - 200;
        CHECKS.dueRow("the last one, too", line(house, 2), 2, 1, 24 + bar, 16, 4 * last * last);
        CHECKS.due("x where nothing is to spare", house.x(0, 0, 15), 36 + 6 + 15 * 20);
        CHECKS.due("x where it is, of one column", house.x(0, 0, 16), 24 + 6);
    }

    private static void equalPrices() {
        // 70, 70 and 82 wide, then a bar alone: 2 + 1 bars cost what 1 + 2 cost
        StaveHouse tie = CHECKS.house("voice v treble 0 {c4:2 c4 d4 d4 f#4 g#4 repeat 4{c4:16 c4 c4 c4}}");
        CHECKS.due("lines(0, 200)", tie.lines(0, 200), 3);
        CHECKS.dueRow("the first line has most", line(tie, 0), 0, 2, 176, 4, 24 * 24);
        CHECKS.dueRow("then the second", line(tie, 1), 2, 1, 106, 2, 94 * 94);
        // 6 + 36 each
        StaveHouse house = CHECKS.house("voice v treble 0 {" + "c4:1 ".repeat(8) + "}");
        CHECKS.due("lines(0, 200)", house.lines(0, 200), 3);
        CHECKS.due("first line", house.line(0, 0, 1), 3);
        CHECKS.due("second line", house.line(0, 1, 1), 4);
        CHECKS.due("third line", house.line(0, 2, 1), 1);
        // all ways into two lines whose last has room cost what the first line costs: the fullest one is taken
        StaveHouse two = CHECKS.house("voice v treble 0 {" + "c4:1 ".repeat(4) + "}");
        CHECKS.due("lines(0, 200)", two.lines(0, 200), 2);
        CHECKS.due("first line", two.line(0, 0, 1), 3);
        StaveHouse exact = CHECKS.house("voice v treble 0 {" + "c4:2 c4 ".repeat(3) + "}");
        int bar = 6 + 2 * 32;
        CHECKS.due("lines just as wide", exact.lines(0, 36 + 3 * bar), 1);
        CHECKS.dueRow("it is the last one", line(exact, 0), 0, 3, 36 + 3 * bar, 6, 0);
        CHECKS.due("lines one less wide", exact.lines(0, 35 + 3 * bar), 2);
        CHECKS.dueRow("then two", line(exact, 0), 0, 2, 36 + 2 * bar, 4, (bar - 1) * (bar - 1));
    }

    private static void columnsOfAllVoices() {
        StaveHouse house = CHECKS.house("voice a treble 0 {c4:2 f#4:4. r:8} voice b bass 0 {c3:4 d3 eb3 r}");
        CHECKS.due("lines(0, 300)", house.lines(0, 300), 1);
        CHECKS.due("columns at 0, 1/4, 1/2, 3/4, 7/8", house.line(0, 0, 3), 5);
        int first = 36 + 6;
        CHECKS.due("a at 1/2", house.x(0, 0, 1), first + 28 + 28);
        CHECKS.due("b at 1/4", house.x(0, 1, 1), first + 28);
        CHECKS.due("b at 1/2", house.x(0, 1, 2), first + 28 + 28);
        CHECKS.due("b at 3/4, behind a sign and a point", house.x(0, 1, 3), first + 28 + 28 + 28 + 6 + 3);
        CHECKS.due("a at 7/8", house.x(0, 0, 2), first + 28 + 28 + 37 + 24);
        CHECKS.due("wide", house.line(0, 0, 2), first + 28 + 28 + 37 + 24 + 24);
    }

    private static void wrongAsked() {
        StaveHouse house = CHECKS.house("voice v treble 0 {c4:1}");
        CHECKS.due("lines(0, 199)", house.lines(0, 199), -1);
        CHECKS.due("lines(0, 2001)", house.lines(0, 2001), -1);
        CHECKS.due("nothing changes", house.look(0, 10), 0);
        CHECKS.due("lines(1, 500)", house.lines(1, 500), -1);
        CHECKS.due("lines(2, 500)", house.lines(2, 500), -1);
        CHECKS.due("lines(-1, 500)", house.lines(-1, 500), -1);
        CHECKS.due("lines(0, 200)", house.lines(0, 200), 1);
        CHECKS.due("lines(0, 0)", house.lines(0, 0), -1);
        CHECKS.due("nothing changes", house.look(0, 10), 1);
        CHECKS.due("line, 5", house.line(0, 0, 5), -1);
        CHECKS.due("line, -1", house.line(0, 0, -1), -1);
        CHECKS.due("line 1", house.line(0, 1, 0), -1);
        CHECKS.due("line -1", house.line(0, -1, 0), -1);
        CHECKS.due("line of piece 1", house.line(1, 0, 0), -1);
        CHECKS.due("line of piece 2", house.line(2, 0, 0), -1);
        CHECKS.due("x of note 1", house.x(0, 0, 1), -1);
        CHECKS.due("x of note -1", house.x(0, 0, -1), -1);
        CHECKS.due("x of voice 1", house.x(0, 1, 0), -1);
        CHECKS.due("x of piece 1", house.x(1, 0, 0), -1);
    }
}
