/** Promises 25 to 28: moment, fault, follows, shape. */
public final class StudyTest {
    private static final Checks CHECKS = new Checks();
    private static final int MIN = Integer.MIN_VALUE;

    public static void main(String[] args) {
        moments();
        chords();
        degrees();
        noChords();
        faultsOfTwo();
        faultsOfOne();
        manyFaults();
        following();
        shapes();
        wrongAsked();
        CHECKS.finish();
    }

    private static long[] moment(StaveHouse house, int i) {
        long[] row = new long[9];
        for (int what = 0; what < 9; what++) {
            row[what] = house.moment(0, i, what);
        }
        return row;
    }

    private static void moments() {
        StaveHouse house = CHECKS.house("voice a treble 0 {c4:2 d4:4 r:4} voice b bass 0 {[3/2:e3:4 f3 g3] r:4. <a3 f3>:8}");
        CHECKS.due("moments", house.look(0, 7), 6);
        CHECKS.dueRow("0", moment(house, 0), 0, 1, 2, 0, 0, 0, 1, 0, 0);
        CHECKS.dueRow("1/6", moment(house, 1), 1, 6, 2, -1, 0, 0, 0, 0, 0);
        CHECKS.dueRow("1/3", moment(house, 2), 1, 3, 2, -1, 0, 0, 0, 0, 0);
        CHECKS.dueRow("1/2", moment(house, 3), 1, 2, 1, -1, 0, 0, 0, 0, 0);
        CHECKS.dueRow("3/4", moment(house, 4), 3, 4, 0, -1, 0, 0, 0, 0, 0);
        CHECKS.dueRow("7/8", moment(house, 5), 7, 8, 2, 0, 3, 0, 0, 3, 0);
        CHECKS.due("none more", house.moment(0, 6, 0), MIN);
    }

    private static void dueKind(int kind, int root, int inversion, String pitches) {
        StaveHouse house = CHECKS.house("voice v treble 0 {<" + pitches + ">}");
        CHECKS.due("kind of " + pitches, house.moment(0, 0, 3), kind);
        CHECKS.due("root of " + pitches, house.moment(0, 0, 4), root);
        CHECKS.due("inversion of " + pitches, house.moment(0, 0, 6), inversion);
    }

    private static void chords() {
        dueKind(0, 0, 0, "c4 e4 g4");
        dueKind(1, 0, 0, "c4 eb4 g4");
        dueKind(2, 0, 0, "c4 eb4 gb4");
        dueKind(3, 0, 0, "c4 e4 g#4");
        dueKind(4, 0, 0, "c4 e4 g4 bb4");
        dueKind(5, 0, 0, "c4 e4 g4 b4");
        dueKind(6, 0, 0, "c4 eb4 g4 bb4");
        dueKind(7, 0, 0, "c4 eb4 gb4 bb4");
        dueKind(8, 0, 0, "c4 eb4 gb4 bbb4");
        dueKind(9, 0, 0, "c4 eb4 g4 b4");
        dueKind(0, 0, 0, "c4 e4");
        dueKind(1, 0, 0, "c4 eb4");
        dueKind(4, 0, 0, "c4 e4 bb4");
        dueKind(5, 0, 0, "c4 e4 b4");
        dueKind(6, 0, 0, "c4 eb4 bb4");
        dueKind(9, 0, 0, "c4 eb4 b4");
        dueKind(0, 0, 1, "e3 g4 c4");
        dueKind(0, 0, 2, "g3 c4 e4 c5 e5");
        dueKind(4, 0, 3, "bb2 g3 c4 e4");
        dueKind(2, 6, 0, "b3 d4 f4");
        dueKind(1, 5, 1, "c3 a3 e4");
        dueKind(4, 1, 3, "cbb4 dbb5 fb5 abb5");
    }

    private static void degrees() {
        StaveHouse house = CHECKS.house("key 3 minor voice v treble 0 {<f#4 a4 c#5> <c#4 e#4 g#4> <a4 c#5 e5> <e4 g#4 bb4>}");
        CHECKS.dueRow("the tonic", moment(house, 0), 0, 1, 3, 1, 3, 1, 0, 0, 0);
        CHECKS.dueRow("the fifth, with a foreign class", moment(house, 1), 1, 4, 3, 0, 0, 1, 0, 4, 1);
        CHECKS.dueRow("the third", moment(house, 2), 1, 2, 3, 0, 5, 0, 0, 2, 0);
        CHECKS.dueRow("no chord at all", moment(house, 3), 3, 4, 3, -1, 0, 0, 0, 0, 0);
        CHECKS.due("of -4 major", CHECKS.house("key -4 major voice v treble 0 {<db4 f4 ab4>}").moment(0, 0, 7), 3);
        CHECKS.due("of -4 major, its root", CHECKS.house("key -4 major voice v treble 0 {<db4 f4 ab4>}").moment(0, 0, 5), -1);
        CHECKS.due("of -4 major, at home", CHECKS.house("key -4 major voice v treble 0 {<db4 f4 ab4>}").moment(0, 0, 8), 0);
        CHECKS.due("of 7 major", CHECKS.house("key 7 major voice v treble 0 {<c#4 e#4 g#4>}").moment(0, 0, 7), 0);
        CHECKS.due("of -7 minor", CHECKS.house("key -7 minor voice v treble 0 {<ab4 cb5 eb5>}").moment(0, 0, 7), 0);
    }

    private static void noChords() {
        for (String pitches : new String[] {"c4 g4", "c4 d4", "c4 e4 eb5", "c4 c#5 e4", "c4 e4 g4 gb5", "c4 e4 g4 d5", "c4 e#4 g4",
            "c4 e4 gb4", "c4 e4 g4 bbb4", "c4 eb4 bbb4", "c4 c5"}) {
            StaveHouse house = CHECKS.house("voice v treble 0 {<" + pitches + ">}");
            CHECKS.due("kind of " + pitches, house.moment(0, 0, 3), -1);
        }
        CHECKS.due("classes each once", CHECKS.house("voice v treble 0 {<c4 c5 c#6 e4 g4>}").moment(0, 0, 2), 4);
    }

    /** Faults as moment, kind, u, v. */
    private static void dueFaults(String text, long... want) {
        StaveHouse house = CHECKS.house(text);
        long[] got = new long[4 * house.look(0, 8)];
        for (int i = 0; i < got.length; i++) {
            got[i] = house.fault(0, i / 4, i % 4);
        }
        CHECKS.dueRow(text, got, want);
        CHECKS.due("none more in " + text, house.fault(0, got.length / 4, 0), -1);
    }

    private static void dueTwo(String upper, String lower, long... want) {
        dueFaults("voice a treble 0 {" + upper + "} voice b bass 0 {" + lower + "}", want);
    }

    private static void faultsOfTwo() {
        dueTwo("c4 d4", "c3 d3", 1, 1, 0, 1);
        dueTwo("c4 d4", "c4 d4", 1, 1, 0, 1);
        dueTwo("d5 c5", "d3 c3", 1, 1, 0, 1);
        dueTwo("c4 c4", "c3 c3");
        dueTwo("g4 a4", "c4 d4", 1, 2, 0, 1);
        dueTwo("g5 a5", "c4 d4", 1, 2, 0, 1);
        dueTwo("g4 f4", "c4 d4");
        dueTwo("c4 d4", "g4 a4", 1, 2, 0, 1);
        dueTwo("c4 d4", "g3 a3");
        dueTwo("c4 c5", "c3 c3");
        dueTwo("c4 c4", "c2 c3");
        dueTwo("c4 c4", "c3 c2");
        dueTwo("r d4", "c3 d3");
        dueTwo("c4 d4", "r d3");
        dueTwo("c5 c4", "c3 c4");
        dueTwo("c4 c5", "c4 c3");
        // an event of each must begin; the moment before counts, not the event before
        dueTwo("c4:2", "c3:4 d3");
        dueTwo("c4 d4", "c3:8 c3:8 d3:4", 2, 1, 0, 1);
        dueTwo("c4 d4", "c3:8 r:8 d3:4");
        // fifths and octaves that are come to the same way
        dueTwo("c4 g4", "a3 c4", 1, 3, 0, 1);
        dueTwo("d4 g4", "a3 c4", 1, 3, 0, 1);
        dueTwo("e4 g4", "b3 c4");
        dueTwo("c4 g4", "c3 c4", 1, 3, 0, 1);
        dueTwo("c4 a4", "c3 f3");
        // of two lines on one tone u's is the higher one
        dueTwo("f3 c4", "b3 c4", 1, 3, 0, 1);
        dueTwo("b3 c4", "g3 c4");
        dueTwo("c4 d4", "a3 a4", 1, 3, 0, 1, 1, 4, 0, 1);
        // the lower voice above the higher one
        dueTwo("e4 e4", "d4 f4", 1, 4, 0, 1);
        dueTwo("e4 e4 e4", "d4 f4 f4", 1, 4, 0, 1);
        dueTwo("c4 c4", "d4 d4");
        dueTwo("c4 c4", "c4 d4", 1, 4, 0, 1);
        dueTwo("r c4", "d4 d4", 1, 4, 0, 1);
        dueTwo("c4 c4", "r d4", 1, 4, 0, 1);
        dueTwo("c4 c4", "b3 c4");
        dueTwo("c4 r", "b3 c4");
        // lines are the highest pitches, by tone
        dueTwo("<c4 e4> <d4 f4>", "e3 f3", 1, 1, 0, 1);
        dueTwo("<b##3 c4> c#4", "r:2", 1, 6, 0, -1);
        dueTwo("<b#3 c4> d4", "r:2");
        // letters alone or tones alone make neither octave nor fifth
        dueTwo("c4 d4", "c#3 d#3");
        dueTwo("c4 d4", "b#2 c##3");
        dueTwo("f5 e5", "b4 a#4");
        dueTwo("g4 a4", "dbb4 ebb4");
        // at one moment by kinds, then by voices
        dueFaults("voice a treble 0 {c5 d5} voice b treble 0 {c4 d4} voice c bass 0 {c3 d3}", 1, 1, 0, 1, 1, 1, 0, 2, 1, 1, 1, 2);
        dueFaults("voice a treble 0 {g4 a4} voice b treble 0 {c4 d4} voice c bass 0 {c3 d3}", 1, 1, 1, 2, 1, 2, 0, 1, 1, 2, 0, 2);
    }

    private static void dueOne(String music, long... want) {
        dueFaults("voice a treble 0 {" + music + "}", want);
    }

    private static void faultsOfOne() {
        dueOne("c4 d5", 1, 5, 0, -1);
        dueOne("c4 c5");
        dueOne("c5 b3", 1, 5, 0, -1);
        dueOne("c4 r d5");
        dueOne("c4~ c4");
        dueOne("c4 d#5", 1, 5, 0, -1, 1, 6, 0, -1);
        String[] right = {"c4 c4", "c4 db4", "c4 d4", "c4 eb4", "c4 e4", "c4 f4", "c4 g4", "c4 ab4", "c4 a4", "c4 bb4", "c4 b4", "b3 c4",
            "g4 c4"};
        for (String music : right) {
            dueOne(music);
        }
        String[] wrong = {"c4 c#4", "c#4 c4", "c4 d#4", "c4 dbb4", "c4 e#4", "c4 ebb4", "c4 f#4", "f4 b4", "f4 b3", "c4 g#4", "c4 gb4", "c4 a#4",
            "c4 abb4", "c4 b#4", "c4 bbb4", "b3 cb4", "b#3 cb4", "c4 cb5"};
        for (String music : wrong) {
            dueOne(music, 1, 6, 0, -1);
        }
        dueFaults("voice a treble 0 {c4:2 d5} voice b treble 0 {c5:4 c5 c5 c5}", 2, 5, 0, -1);
    }

    private static void manyFaults() {
        String music = "repeat 4{repeat 4{c4 d4 e4 f4 g4 f4 e4 d4}}";
        StaveHouse house = CHECKS.house("voice a treble 0 {" + music + "} voice b treble 0 {" + music + "} voice c bass 0 {" + music + "}");
        CHECKS.due("300 at most", house.look(0, 8), 300);
        CHECKS.due("the last one's moment", house.fault(0, 299, 0), 100);
        CHECKS.due("the last one's v", house.fault(0, 299, 3), 2);
        CHECKS.due("none more", house.fault(0, 300, 0), -1);
    }

    private static void dueFollows(String ahead, String behind, long... want) {
        StaveHouse house = CHECKS.house("voice a treble 0 {" + ahead + "} voice b bass 0 {" + behind + "}");
        long[] row = new long[4];
        for (int what = 0; what < 4; what++) {
            row[what] = house.follows(0, 0, 1, what);
            CHECKS.due("the other way round", house.follows(0, 1, 0, what), 0);
        }
        CHECKS.dueRow(behind + " behind " + ahead, row, want);
    }

    private static void following() {
        dueFollows("c4:4 d4 e4 f4 g4:2 r:2", "r:2 g3:4 a3 b3 c4 d4:2", 5, -3, 1, 2);
        dueFollows("r:8 c4:4 r <c4 d4> r:1", "r:4 c5:4 r d5 r:2..", 3, 7, 1, 8);
        dueFollows("c4:4 d4 e4 r", "r:4 c4 d4 f4", 2, 0, 1, 4);
        dueFollows("c4:4 d4 e4 r", "r:4 c4 d4:8 e4 f4:4", 1, 0, 1, 4);
        dueFollows("c4:4 d4 e4 r", "r:4 c4 r d4", 1, 0, 1, 4);
        dueFollows("c4:4 d4 e4 r", "r:4 c4:8 d4 e4:4 f4", 0, 0, 0, 0);
        dueFollows("c4:4 d4", "c4:4 d4", 0, 0, 0, 0);
        dueFollows("c4:4 d4", "r:4 r", 0, 0, 0, 0);
        dueFollows("[3/2:c4:8 d4 e4] r:4", "[3/2:r:8 e4 f4] g4:4", 2, 2, 1, 12);
    }

    private static StaveHouse shaped;

    private static void dueShape(int i, int n, int kind, int... want) {
        for (int k = 0; k <= want.length; k++) {
            CHECKS.due("shape of " + n + " from " + i + " by " + kind + ", " + k, shaped.shape(0, 0, i, n, 0, 0, kind, k),
                k < want.length ? want[k] : -1);
        }
    }

    private static void shapes() {
        shaped = CHECKS.house("voice v treble 0 {c4:4 d4 e4:2 g4:4 a4 b4:2 e4:8 d4 c4:4 b3:2 c4:4 d4}");
        dueShape(0, 3, 0, 0, 3);
        dueShape(3, 3, 0, 0, 3);
        dueShape(0, 3, 1);
        dueShape(0, 3, 2);
        dueShape(0, 3, 3, 9);
        dueShape(0, 3, 4, 0, 3);
        dueShape(0, 3, 5, 6);
        dueShape(6, 3, 5, 0, 3);
        dueShape(0, 2, 0, 0, 3, 10);
        dueShape(0, 2, 1);
        dueShape(0, 2, 3, 0, 3, 10);
        dueShape(6, 2, 4, 6);
        dueShape(6, 2, 5, 0, 3, 10);
        dueShape(6, 2, 6, 0, 3, 10);
        dueShape(0, 12, 0, 0);
        shaped = CHECKS.house("voice v treble 0 {c4:4 d4 e4:2 g4:4 f4:8 e4 c4:4. c4:4 r}");
        dueShape(0, 3, 6, 3);
        dueShape(0, 3, 7);
        dueShape(3, 3, 6, 0);
        shaped = CHECKS.house("voice v treble 0 {r:4 c4 r <e4 b3> r r r d4 r f4}");
        dueShape(0, 4, 0, 0, 6);
        dueShape(1, 3, 3, 1, 7);
        dueShape(4, 2, 0, 4, 5);
        dueShape(4, 2, 7, 4, 5);
        CHECKS.readAt(shaped, 1, "voice a treble 0 {r:1} voice b treble 0 {c5:8 r g5 r:8 e4:2}");
        CHECKS.due("in the other piece, kind 4", shaped.shape(0, 0, 1, 3, 1, 1, 4, 0), -1);
        CHECKS.due("in the other piece, two of it", shaped.shape(0, 0, 1, 2, 1, 1, 4, 1), 2);
        CHECKS.due("from the other piece", shaped.shape(1, 1, 0, 2, 0, 0, 4, 2), 7);
        shaped = CHECKS.house("voice v treble 0 {[3/2:c4:8 d4:4] c4:8 d4:4 r:8 [7/4:c4:16 d4:8 c4:16 d4:8 r:16]}");
        dueShape(0, 2, 0, 0);
        dueShape(0, 2, 4, 0, 2, 5, 7);
    }

    private static void wrongAsked() {
        StaveHouse house = CHECKS.house("voice a treble 0 {c4 d4 e4} voice b bass 0 {c4 d4 e4}");
        int[] far = {Integer.MIN_VALUE, -1, 2, Integer.MAX_VALUE};
        for (int n : far) {
            CHECKS.due("moment of piece " + n, house.moment(n, 0, 0), MIN);
            CHECKS.due("fault of piece " + n, house.fault(n, 0, 0), -1);
            CHECKS.due("follows of piece " + n, house.follows(n, 0, 1, 0), -1);
            CHECKS.due("follows of u " + n, house.follows(0, n, 1, 0), -1);
            CHECKS.due("follows of v " + n, house.follows(0, 0, n, 0), -1);
            CHECKS.due("shape of h " + n, house.shape(n, 0, 0, 2, 0, 0, 0, 0), -1);
            CHECKS.due("shape of v " + n, house.shape(0, n, 0, 2, 0, 0, 0, 0), -1);
            CHECKS.due("shape of i " + n, house.shape(0, 0, n, 2, 0, 0, 0, 0), -1);
            CHECKS.due("shape of g " + n, house.shape(0, 0, 0, 2, n, 0, 0, 0), -1);
            CHECKS.due("shape of w " + n, house.shape(0, 0, 0, 2, 0, n, 0, 0), -1);
            CHECKS.due("shape of k " + n, house.shape(0, 0, 0, 2, 0, 0, 0, n), -1);
        }
        CHECKS.due("without a piece", house.moment(1, 0, 0), MIN);
        CHECKS.due("moment 3", house.moment(0, 3, 0), MIN);
        CHECKS.due("moment -1", house.moment(0, -1, 0), MIN);
        CHECKS.due("moment, 9", house.moment(0, 0, 9), MIN);
        CHECKS.due("moment, -1", house.moment(0, 0, -1), MIN);
        CHECKS.due("fault, 4", house.fault(0, 0, 4), -1);
        CHECKS.due("fault, -1", house.fault(0, 0, -1), -1);
        CHECKS.due("fault -1", house.fault(0, -1, 0), -1);
        CHECKS.due("fault is there", house.fault(0, 0, 1), 1);
        CHECKS.due("u is v", house.follows(0, 1, 1, 0), -1);
        CHECKS.due("follows, 4", house.follows(0, 0, 1, 4), -1);
        CHECKS.due("follows, -1", house.follows(0, 0, 1, -1), -1);
        CHECKS.due("shape of 1", house.shape(0, 0, 0, 1, 0, 0, 0, 0), -1);
        CHECKS.due("shape of 21", house.shape(0, 0, 0, 21, 0, 0, 0, 0), -1);
        CHECKS.due("shape of 4 in 3", house.shape(0, 0, 0, 4, 0, 0, 0, 0), -1);
        CHECKS.due("shape of 3", house.shape(0, 0, 0, 3, 0, 1, 0, 0), 0);
        CHECKS.due("kind 8", house.shape(0, 0, 0, 2, 0, 0, 8, 0), -1);
        CHECKS.due("kind -1", house.shape(0, 0, 0, 2, 0, 0, -1, 0), -1);
        StaveHouse twenty = CHECKS.house("voice a treble 0 {" + "c4 ".repeat(21) + "}");
        CHECKS.due("shape of 20", twenty.shape(0, 0, 0, 20, 0, 0, 0, 1), 1);
        CHECKS.due("shape of 20, no more", twenty.shape(0, 0, 0, 20, 0, 0, 0, 2), -1);
        CHECKS.due("shape of 20 from behind", twenty.shape(0, 0, 2, 20, 0, 0, 0, 0), -1);
        CHECKS.due("shape of 21 where they are", twenty.shape(0, 0, 0, 21, 0, 0, 0, 0), -1);
        // nothing is left of longer pieces that stood there
        for (int n = 0; n < 3; n++) {
            CHECKS.readAt(twenty, 0, "voice a treble 0 {c4 c4 c4} voice b bass 0 {r:4 c4 c4}");
            CHECKS.due("shape beyond the last event", twenty.shape(0, 0, 2, 2, 0, 0, 0, 0), -1);
            CHECKS.due("shapes as far as there are events", twenty.shape(0, 0, 0, 2, 0, 0, 0, 2), -1);
            CHECKS.due("follows as far as there are events", twenty.follows(0, 0, 1, 0), 2);
        }
    }
}
