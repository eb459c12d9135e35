/** Promise 4, Part III: the faults 6 to 15; @ stands ahead of the token at which they are told. */
public final class EventFaultsTest {
    private static final Checks CHECKS = new Checks();
    private static final String VOICE = "voice v treble 0 {";

    public static void main(String[] args) {
        barLines();
        lengths();
        eventsAndBars();
        itemsGoneThrough();
        pitches();
        empty();
        brackets();
        ties();
        slurs();
        tooManyNotes();
        ends();
        order();
        keepsThePiece();
        CHECKS.finish();
    }

    private static void right(String text) {
        CHECKS.dueFault(0, text);
    }

    private static void wrong(int fault, String text) {
        CHECKS.dueFault(fault, text);
    }

    private static void barLines() {
        right(VOICE + "| c4:1 | | c4:2 c4:2 |}");
        wrong(7, VOICE + "c4:2 @| c4}");
        wrong(7, "time 3/4 " + VOICE + "c4:1 @|}");
        right(VOICE + "back{c4:2 | c4:2} |}");
        wrong(7, VOICE + "back{c4:2} @|}");
        wrong(7, "let m = {c4:4 @|}" + VOICE + "use m}");
        right("let m = {c4:4 |}" + VOICE + "back{use m}}");
        wrong(7, VOICE + "repeat 2 {c4:2. @|}}");
    }

    private static void lengths() {
        wrong(12, VOICE + "slow 1/8{@c4:32}}");
        right(VOICE + "slow 1/4{c4:32}}");
        wrong(12, VOICE + "slow 1/8{@r:32.}}");
        wrong(12, VOICE + "slow 1/3{@<c4 d4>}}");
        right(VOICE + "slow 1/3{c4:4.}}");
        right(VOICE + "slow 8/1{c4:1}}");
        wrong(12, VOICE + "slow 8/1{@c4:1.}}");
        right(VOICE + "slow 1/7{slow 1/5{slow 7/1{slow 5/1{c4}}}}}");
        right(VOICE + "slow 8/1{slow 8/1{slow 8/1{slow 1/8{slow 1/8{slow 1/8{c4}}}}}}}");
        right(VOICE + "[2/1:[2/1:c4 c4 c4 c4]]}");
        wrong(12, VOICE + "[2/1:[2/1:[2/1:@c4]]]}");
        wrong(12, "let m = {[2/1:[2/1:@c4]]}" + VOICE + "[2/1:use m]}");
        right("let m = {[2/1:[2/1:c4]]}" + VOICE + "use m}");
    }

    private static void eventsAndBars() {
        String many = VOICE + "repeat 4{repeat 4{repeat 4{c4:32 c4 c4}}} c4 c4 c4 c4 c4 c4 c4 ";
        right(many + "c4}");
        wrong(8, many + "c4 @<c4 d4>}");
        String bars = "time 1/2 " + VOICE + "repeat 4{repeat 4{c4:1 c4:1 c4:1}} ";
        right(bars + "r:1 r:1}");
        wrong(8, bars + "r:1 r:1 @r:32}");
        wrong(8, bars + "r:1 back{r:1 @r:32}}");
        wrong(8, bars + "r:2 r:2 r:2 @c4:1}");
    }

    private static void itemsGoneThrough() {
        // repeat 4 { .. } counts 1 and 4 more; with 2 items in the fifth one 3753 items are gone through
        String gone = VOICE + "c4 repeat 4{repeat 4{repeat 4{repeat 4{repeat 4{!f !p}}}}}";
        String lets = "let m = {" + "!p ".repeat(245) + "}";
        // 1 + 3753 + 5 * (1 + 245) = 4984: 16 more are right, 17 are not
        String used = gone + "use m ".repeat(5);
        right(lets + used + "!p ".repeat(16) + "}");
        wrong(8, lets + used + "!p ".repeat(16) + "@! p}");
        wrong(8, lets + used + "!p ".repeat(16) + "@c4 c4}");
        // ahead of all else of that item: the 5001st is a bar line that would be wrong, too
        wrong(8, lets + used + "!p ".repeat(16) + "@|}");
        // a repeat's music that is begun counts at repeat: the 5001st is the music, behind the item itself
        wrong(8, lets + used + "!p ".repeat(15) + "@repeat 2{}}");
        right(lets + used + "!p ".repeat(13) + "repeat 2{}}");
        wrong(8, lets + used + "!p ".repeat(13) + "@repeat 2{}alt{}}");
        right(lets + used + "!p ".repeat(11) + "repeat 2{}alt{}}");
    }

    private static void pitches() {
        wrong(9, VOICE + "move c4 c5 {@c8}}");
        right(VOICE + "move c4 c5 {c7}}");
        right(VOICE + "move d0 c0 {d0} move a8 b8 {a8}}");
        wrong(9, VOICE + "move d0 c0 {@c0}}");
        wrong(9, VOICE + "move c4 d4 {@b##4}}");
        wrong(9, VOICE + "mirror c2 {@c5}}");
        wrong(9, VOICE + "mirror cb4 {<c4 @g##4>}}");
        // what a later move would make of it doesn't count
        wrong(9, VOICE + "move c5 c4 {move c4 c5 {@c8}}}");
        right(VOICE + "move c4 c5 {move c5 c4 {c8}}}");
        wrong(9, VOICE + "<c4 d4 @c#4>}");
        wrong(9, VOICE + "<c4 @c4 d4 d4>}");
        wrong(9, "let m = {move c4 c5{@c8}}" + VOICE + "use m}");
        right("let m = {move c4 c5{c8}}" + VOICE + "c4}");
    }

    private static void empty() {
        wrong(15, "tempo 99 @" + VOICE + "}");
        wrong(15, "@" + VOICE + "! p | repeat 2{} [3/2:]}");
        wrong(15, VOICE + "c4} @voice w bass 0 {}");
    }

    private static void brackets() {
        right(VOICE + "[3/2:c4:4 c4 c4] [5/4:c4:8 c4 c4 c4 c4]}");
        right(VOICE + "c4:2 [3/2:c4:4 c4 c4] [3/2:c4:4 c4 c4]}");
        wrong(13, VOICE + "@[3/2:c4:4 c4]}");
        wrong(13, VOICE + "c4:2. @[3/2:c4:4 c4 c4]}");
        wrong(13, "time 2/4 " + VOICE + "@[3/2:c4:4 c4 c4 c4 c4 c4]}");
        right(VOICE + "[3/2:c4:8 [3/2:c4:16 c4 c4] c4:8]}");
        right(VOICE + "[3/2:[5/4:c4:16 c4 c4 c4 c4] c4:8 [2/1:c4:4. c4]]}");
        wrong(13, VOICE + "@[3/2:c4:8 [5/4:c4:16 c4 c4] c4]}");
        // each time that it is gone through: the second time it crosses a bar line
        wrong(13, "time 3/8 " + VOICE + "repeat 2{@[3/2:c4:8 c4 c4]}}");
        wrong(13, VOICE + "back{@[3/2:c4:4 c4 c4] r:2.}}");
        right(VOICE + "back{[3/2:c4:4 c4 c4] r:2}}");
        // ahead of what is wrong in its first event
        wrong(13, VOICE + "@[3/2:c4:4~ d4]}");
    }

    private static void ties() {
        right(VOICE + "c4~ c4}");
        wrong(10, VOICE + "@c4~}");
        wrong(10, VOICE + "@c4~ d4}");
        wrong(10, VOICE + "@c4~ c#4}");
        wrong(10, VOICE + "@b#3~ c4}");
        wrong(10, VOICE + "@c4~ r}");
        wrong(10, VOICE + "@<c4 e4>~ d4 c4}");
        right(VOICE + "<c4 e4>~ <d4 e4>}");
        right(VOICE + "back{c4~ c4}}");
        right(VOICE + "back{c4~ c4~} d4}");
        wrong(10, VOICE + "back{d4~ @c4 d4}}");
        wrong(10, VOICE + "repeat 2{c4 @c4~} d4}");
        right(VOICE + "repeat 2{c4 c4~} c4}");
    }

    private static void slurs() {
        right(VOICE + "c4( d4) e4( f4)( g4)}");
        wrong(11, VOICE + "c4( @d4( e4)}");
        wrong(11, VOICE + "c4 @d4)}");
        wrong(11, VOICE + "@c4() d4)}");
        wrong(11, VOICE + "c4( d4) @e4)}");
        wrong(11, "tempo 99 @" + VOICE + "c4( d4}");
        wrong(11, "@" + VOICE + "c4( d4)(}");
        right(VOICE + "back{c4( d4 e4)}}");
        wrong(11, VOICE + "back{@c4( d4}}");
        wrong(11, VOICE + "@c4)( d4)}");
    }

    private static void tooManyNotes() {
        // 128 long events, each off the beat and cut into many notes
        String many = "time 12/2 @voice v treble 0 {slow 1/4{c4:32} repeat 4{repeat 4{";
        String event = "slow 7/4{c4:1..}";
        wrong(14, many + event.repeat(9) + "}}}");
        StaveHouse house = CHECKS.house(many.replace("@", "") + event.repeat(8) + "}}}");
        CHECKS.due("notes below 800", house.voice(0, 0, 3), 781);
        String few = many + event.repeat(8) + "}} c4:32 c4 c4 c4 c4 ";
        StaveHouse most = CHECKS.house(few.replace("@", "") + "c4:4 c4:1}");
        CHECKS.due("800 notes", most.voice(0, 0, 3), 800);
        wrong(14, few + "c4:4 c4:4}");
    }

    private static void ends() {
        right(VOICE + "c4} voice w bass 0 {c4:8 r}");
        wrong(6, VOICE + "c4} @voice w bass 0 {c4:2}");
        wrong(6, VOICE + "c4} voice w bass 0 {c4} @voice x bass 0 {c4:8} voice y bass 0 {c4:2}");
    }

    private static void order() {
        // faults of the text come ahead of all others
        wrong(2, VOICE + "c4:2 | c4} @x");
        // of one event: 12, then 8, then 9
        wrong(12, VOICE + "slow 1/8{move c4 c5{@c8:32}}}");
        // voice by voice: what is behind the first one's events comes ahead of the second one's going through
        wrong(11, "@" + VOICE + "c4(} voice w bass 0 {c4:2 |}");
        // of one event: 10, then 11
        wrong(10, VOICE + "@c4)~ d4}");
        // what comes of going through the whole voice comes first
        wrong(7, VOICE + "c4~ d4 @|}");
    }

    private static void keepsThePiece() {
        StaveHouse house = CHECKS.house("voice old bass 2 {c4:1 c4}");
        house.lines(0, 300);
        house.perform(0);
        house.play(0, 5);
        Checks.put(house, VOICE + "c4~}");
        CHECKS.due("a faulty text", house.read(0), 10 + 16 * VOICE.length());
        CHECKS.due("the tape is empty", house.end(0), 0);
        CHECKS.due("the piece stays", house.look(0, 1), 2);
        CHECKS.due("its name", house.name(0, 0), 0x6f6c64);
        CHECKS.due("its lines", house.look(0, 10), 1);
        CHECKS.due("its performance", house.look(0, 13), 5);
        CHECKS.readAt(house, 0, VOICE + "d4}");
        CHECKS.due("without lines", house.look(0, 10), 0);
        CHECKS.due("without performance", house.look(0, 12), 0);
        CHECKS.due("without samples", house.sample(0, 0, 0), Integer.MIN_VALUE);
        CHECKS.due("the other place has none", house.look(1, 0), -1);
        house.lines(0, 300);
        house.perform(0);
        for (int n = 0; n < 3; n++) {
            CHECKS.readAt(house, 0, VOICE + "d4 e4}");
            CHECKS.due("without lines again", house.look(0, 10), 0);
            CHECKS.due("without an x", house.x(0, 0, 0), -1);
            CHECKS.due("without a line", house.line(0, 0, 0), -1);
            CHECKS.due("without sounds", house.look(0, 11), 0);
            CHECKS.due("without strokes", house.stroke(0, 0, 0), -1);
            CHECKS.due("its own moments", house.look(0, 7), 2);
            CHECKS.due("its own sounds", house.perform(0), 2);
            CHECKS.due("no samples yet", house.sample(0, 0, 0), Integer.MIN_VALUE);
            house.play(0, 2);
            house.lines(0, 300);
        }
    }
}
