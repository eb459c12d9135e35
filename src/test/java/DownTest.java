/** Promise 22: a file that is open is written down as a text. */
public final class DownTest {
    private static final Checks CHECKS = new Checks();

    public static void main(String[] args) {
        plain();
        grids();
        spelling();
        chords();
        bars();
        voices();
        noRoom();
        readsAgain();
        wrongAsked();
        CHECKS.finish();
    }

    private static byte[] track(int... values) {
        byte[] bytes = Checks.bytes(values);
        return Checks.join("MTrk".getBytes(), Checks.bytes(0, 0, bytes.length >> 8, bytes.length), bytes);
    }

    private static StaveHouse opened(int division, byte[]... tracks) {
        StaveHouse house = new StaveHouse();
        byte[] head = Checks.bytes('M', 'T', 'h', 'd', 0, 0, 0, 6, 0, 1, 0, tracks.length, division >> 8, division);
        Checks.put(house, Checks.join(head, Checks.join(tracks)));
        CHECKS.due("open()", house.open(), 0);
        return house;
    }

    private static void dueDown(StaveHouse house, int grid, String want) {
        CHECKS.due("down(" + grid + ")", house.down(grid), want.length());
        CHECKS.dueText("down(" + grid + ")", Checks.written(house, want.length()), want);
        CHECKS.due("out behind it", house.out(want.length()), -1);
    }

    private static void plain() {
        StaveHouse house = opened(4, track(0, 192, 6, 4, 144, 60, 1, 4, 60, 0, 0, 62, 1, 6, 62, 0, 2, 64, 1, 2, 64, 0));
        dueDown(house, 8, "key 0 major\ntime 4/4\ntempo 120\nvoice va treble 2 {\n"
            + "r:4 c4:4 d4:4. r:8 |\ne4:8 r:2.. |\n}\n");
        StaveHouse told = opened(4, track(0, 255, 88, 4, 3, 2, 0, 0, 0, 255, 89, 2, 254, 1, 0, 255, 81, 3, 15, 66, 64, 0, 144, 58, 1,
            12, 58, 0));
        dueDown(told, 4, "key -2 minor\ntime 3/4\ntempo 60\nvoice va bass 0 {\nbb3:2. |\n}\n");
    }

    private static void grids() {
        // a quarter has 96 ticks: 1/32 are 12, places are nearest, halves go up
        StaveHouse house = opened(96, track(5, 144, 60, 1, 1, 62, 1, 96, 60, 0, 0, 62, 0));
        dueDown(house, 32, "key 0 major\ntime 4/4\ntempo 120\nvoice va treble 0 {\n"
            + "c4:32 d4:8..~ d4:32 r:8.. r:2 |\n}\n");
        dueDown(house, 4, "key 0 major\ntime 4/4\ntempo 120\nvoice va treble 0 {\n<c4 d4>:4 r:2. |\n}\n");
        // at least 1 / g long, at the next one's beginning at most
        StaveHouse small = opened(96, track(0, 144, 60, 1, 1, 60, 0, 47, 62, 1, 48, 64, 1, 96, 62, 0, 0, 64, 0));
        dueDown(small, 8, "key 0 major\ntime 4/4\ntempo 120\nvoice va treble 0 {\nc4:8 d4:8 e4:4 r:2 |\n}\n");
        dueDown(small, 16, "key 0 major\ntime 4/4\ntempo 120\nvoice va treble 0 {\nc4:16 r:16 d4:8 e4:4 r:2 |\n}\n");
        // sounds that begin together end where the last of them ends
        StaveHouse both = opened(96, track(0, 144, 60, 1, 0, 64, 1, 96, 60, 0, 96, 64, 0));
        dueDown(both, 4, "key 0 major\ntime 4/4\ntempo 120\nvoice va treble 0 {\n<c4 e4>:2 r:2 |\n}\n");
    }

    private static void dueSpelled(int fifths, String want) {
        int[] bytes = new int[7 + 12 * 7];
        int[] key = {0, 255, 89, 2, fifths, 0, 0};
        System.arraycopy(key, 0, bytes, 0, 7);
        for (int n = 0; n < 12; n++) {
            int[] one = {144, 60 + n, 1, 4, 60 + n, 0, 0};
            System.arraycopy(one, 0, bytes, 7 + 7 * n, 7);
        }
        StaveHouse house = opened(4, track(java.util.Arrays.copyOf(bytes, bytes.length - 1)));
        int size = house.down(4);
        String text = Checks.written(house, size);
        text = text.substring(text.indexOf('{') + 2).replace("|\n", "").replace("}\n", "").replace(":4", "").trim();
        CHECKS.dueText("twelve tones with " + fifths, text, want);
    }

    private static void spelling() {
        dueSpelled(0, "c4 db4 d4 eb4 e4 f4 f#4 g4 ab4 a4 bb4 b4");
        dueSpelled(7, "b#3 c#4 d4 d#4 e4 e#4 f#4 f##4 g#4 a4 a#4 b4");
        dueSpelled(-7, "dbb4 db4 ebb4 eb4 fb4 f4 gb4 abb4 ab4 bbb4 bb4 cb5");
        dueSpelled(-3, "c4 db4 d4 eb4 fb4 f4 gb4 g4 ab4 a4 bb4 cb5");
    }

    private static void chords() {
        // seven tones, one of them twice: the six least ones, each once; the seventh one's end counts
        StaveHouse house = opened(4, track(0, 144, 72, 1, 0, 60, 1, 0, 62, 1, 0, 64, 1, 0, 65, 1, 0, 67, 1, 0, 69, 1, 0, 60, 1, 4, 60, 0, 0,
            60, 0, 0, 62, 0, 0, 64, 0, 0, 65, 0, 0, 67, 0, 0, 69, 0, 12, 72, 0));
        dueDown(house, 4, "key 0 major\ntime 4/4\ntempo 120\nvoice va treble 0 {\n<c4 d4 e4 f4 g4 a4>:1 |\n}\n");
        // no octave for 11 and 120; 12 and 119 have one
        StaveHouse far = opened(4, track(0, 144, 11, 1, 0, 12, 1, 4, 11, 0, 0, 12, 0, 0, 119, 1, 0, 120, 1, 4, 119, 0, 0, 120, 0, 0, 5, 1, 4, 5,
            0, 0, 127, 1, 4, 127, 0));
        dueDown(far, 4, "key 0 major\ntime 4/4\ntempo 120\nvoice va treble 0 {\nc0:4 b8:4 r:4 r:4 |\n}\n");
        // six tones are taken first, then one of them is left out
        StaveHouse seven = opened(4, track(0, 144, 11, 1, 0, 60, 1, 0, 62, 1, 0, 64, 1, 0, 65, 1, 0, 67, 1, 0, 69, 1, 16, 128, 11, 0));
        dueDown(seven, 4, "key 0 major\ntime 4/4\ntempo 120\nvoice va bass 0 {\n<c4 d4 e4 f4 g4>:1 |\n}\n");
        // f and f# are both on one step: the earlier one stays
        StaveHouse step = opened(4, track(0, 144, 65, 1, 0, 66, 1, 0, 67, 1, 4, 65, 0, 0, 66, 0, 0, 67, 0));
        dueDown(step, 4, "key 0 major\ntime 4/4\ntempo 120\nvoice va treble 0 {\n<f4 g4>:4 r:2. |\n}\n");
    }

    private static void bars() {
        // six quarters in bars of 5 / 4, ten of rest ahead of them
        StaveHouse house = opened(1, track(0, 255, 88, 4, 5, 2, 0, 0, 10, 144, 60, 1, 6, 60, 0));
        dueDown(house, 4, "key 0 major\ntime 5/4\ntempo 120\nvoice va treble 0 {\nr:1 r:4 |\nr:1 r:4 |\nc4:1~ c4:4~ |\nc4:4 r:1 |\n}\n");
        StaveHouse fine = opened(8, track(0, 255, 88, 4, 3, 4, 0, 0, 1, 144, 60, 1, 9, 60, 0, 0, 62, 1, 1, 62, 0));
        dueDown(fine, 32, "key 0 major\ntime 3/16\ntempo 120\nvoice va treble 0 {\n"
            + "r:32 c4:16.~ c4:16~ |\nc4:8 d4:32 r:32 |\n}\n");
    }

    private static void voices() {
        int[] high = {0, 144, 60, 1, 4, 60, 0};
        int[] low = {0, 145, 59, 1, 0, 60, 1, 8, 59, 0, 0, 60, 0};
        StaveHouse house = opened(4, track(0, 255, 1, 0), track(high), track(low), track(), track(high), track(high), track(0, 144, 60, 1, 120, 60, 0));
        dueDown(house, 4, "key 0 major\ntime 4/4\ntempo 120\nvoice va treble 0 {\nc4:4 r:4 r:2 |\n}\n"
            + "voice vb bass 0 {\n<b3 c4>:2 r:2 |\n}\nvoice vc treble 0 {\nc4:4 r:4 r:2 |\n}\n"
            + "voice vd treble 0 {\nc4:4 r:4 r:2 |\n}\n");
    }

    private static void noRoom() {
        // 400 quarters are a hundred bars
        StaveHouse house = opened(1, track(0x83, 15, 144, 60, 1, 1, 60, 0));
        CHECKS.due("a hundred bars", house.down(4) > 0 ? 1 : 0, 1);
        StaveHouse long1 = opened(1, track(0x83, 15, 144, 60, 1, 2, 60, 0));
        CHECKS.due("something is written", long1.down(4), -2);
        CHECKS.due("nothing is written then", long1.out(0), -1);
        CHECKS.due("nothing comes again", long1.again(), -1);
        StaveHouse far = opened(1, track(255, 255, 255, 127, 144, 60, 1));
        CHECKS.due("far beyond", far.down(32), -2);
        int[] many = new int[4 + 3 * 399];
        many[1] = 144;
        for (int n = 0; n < 400; n++) {
            many[n == 0 ? 2 : 4 + 3 * (n - 1) + 1] = 61 + n % 2 * 2;
            many[n == 0 ? 3 : 4 + 3 * (n - 1) + 2] = 1;
            if (n > 0) {
                many[4 + 3 * (n - 1)] = 1;
            }
        }
        StaveHouse wide = opened(1, track(many));
        int size = wide.down(4);
        CHECKS.due("400 events of six bytes and more", size > 0 && size <= 3000 ? 1 : 0, 1);
        StaveHouse wider = opened(2, track(many));
        CHECKS.due("eighths", wider.down(8) > 0 ? 1 : 0, 1);
        CHECKS.due("something is written", wider.out(0), 'k');
        StaveHouse fine = opened(3, track(many));
        CHECKS.due("cut into too many notes", fine.down(32), -2);
        CHECKS.due("nothing is written then", fine.out(0), -1);
    }

    private static void readsAgain() {
        StaveHouse house = CHECKS.house("key 2 minor time 6/8 tempo 99 voice a treble 1 {c4:8- d4:4- e4:4.- <c#4 f#4 b4>:2.-}"
            + " voice b bass 3 {c3:1.-}");
        house.perform(0);
        house.file(0);
        house.again();
        CHECKS.due("open()", house.open(), 0);
        int size = house.down(16);
        CHECKS.due("again()", house.again(), size);
        CHECKS.due("read(1)", house.read(1), 0);
        for (int what = 0; what < 9; what++) {
            CHECKS.due("look " + what, house.look(1, what), house.look(0, what));
        }
        for (int i = 0; i < 4; i++) {
            CHECKS.due("pitch of " + i, house.pitch(1, 0, i, 0, 2), house.pitch(0, 0, i, 0, 2));
        }
    }

    private static void wrongAsked() {
        StaveHouse house = opened(4, track(0, 144, 60, 1, 4, 60, 0));
        dueDown(house, 4, "key 0 major\ntime 4/4\ntempo 120\nvoice va treble 0 {\nc4:4 r:2. |\n}\n");
        for (int grid : new int[] {0, 1, 2, 3, 5, 64, -4, Integer.MIN_VALUE, Integer.MAX_VALUE}) {
            CHECKS.due("down(" + grid + ")", house.down(grid), -1);
            CHECKS.due("what was written stays", house.out(0), 'k');
        }
        CHECKS.due("without a file", new StaveHouse().down(4), -1);
        CHECKS.due("without sounds", opened(4, track()).down(4), -1);
    }
}
