import java.util.ArrayList;
import java.util.List;

/** A house in which pieces and files stood before answers as a new one does: nothing is left of what was there. */
public final class NothingLeftTest {
    private static final Checks CHECKS = new Checks();
    private static final String VOICE = "voice v treble 0 {";

    private static final String[] TEXTS = {
        "key -5 minor time 7/8 tempo 33 let m={c4:8 <d4 f#4>:4~ <d4 f4>:8}let n={use m r:4.}voice aaaaaaaa bass 3{use m use n [3/2:c#4:8 d4 e4] r:8}"
            + "voice b alto 2{r:8 g3:2.. c4:8% d5 f2 r:4 r:8 |}",
        VOICE + "c4}",
        VOICE + "back{back{back{back{back{back{[2/2:c4:8 d4 e4 f4]}}}}}} r:2}",
        VOICE + "r:1 r:2}",
        "time 3/4 voice a treble 0{c4:4 d4 e4 f4 g4 a4}voice b treble 0{r:4 c4 d4 e4 f4 g4}voice c bass 0{c3:4 d3 e3 f3 g3 a3}voice d tenor 1{r:2. c2:2.}",
        "key 7 major " + VOICE + "c4:1% ".repeat(63) + "}",
        "time 2/16 " + VOICE + "f#4:32( g4 a4 b4) repeat 4{c5:16~ c5:32' r}}",
        "time 12/2 tempo 300 " + VOICE + "slow 8/1{c4:1} slow 4/1{<c4 e4 g4>:1^}}",
        VOICE + "back{c4:8( d4~ d4) | e4} slow 1/2{move c4 g4{mirror d4{c4 f#4}}}}"};

    private static final String[] FAULTY = {"A", "let m={c4:8} voice", VOICE + "c4 |}", VOICE + "[3/2:c4:4 c4]}", VOICE + "back{slow 1/2{[3/2:<c4 c4>]}}}",
        VOICE + "c4( d4}", VOICE + "move c4 c5{back{c8}}}", "key 3 minor time 5/8 tempo 44 " + VOICE + "c4:1}voice w bass 0{c4:2}", VOICE + "c4 ".repeat(201) + "}",
        VOICE + "back{[2/1:back{back{A", "time 12/2 " + VOICE + "slow 1/4{c4:32} repeat 4{repeat 4{" + "slow 7/4{c4:1..}".repeat(9) + "}}}",
        VOICE + "mirror c4{[3/2:slow 1/3{c4}]}}"};

    public static void main(String[] args) {
        for (String text : TEXTS) {
            CHECKS.dueFault(0, text);
        }
        for (String text : FAULTY) {
            CHECKS.due("has a fault: " + text, new Script().text(text).ask(house -> house.read(0)) > 0 ? 1 : 0, 1);
        }
        pieces();
        faultyTexts();
        bothPlaces();
        files();
        CHECKS.finish();
    }

    private static Script used(Script script, int h) {
        return script.then(house -> house.lines(h, 250)).then(house -> house.perform(h)).then(house -> house.play(h, 30)).then(house -> house.look(h, 8))
            .then(house -> house.look(h, 9)).then(house -> house.moment(h, 0, 3));
    }

    private static void dueLikeNew(Script before, String text, int h, String told) {
        Script old = before.piece(h, text);
        Script fresh = new Script().piece(h, text);
        CHECKS.dueSame(told + ", as it is read", old.all(), fresh.all());
        used(old, h);
        used(fresh, h);
        CHECKS.dueSame(told + ", when it is used", old.all(), fresh.all());
    }

    /** Pieces come in the stead of two and more others, so that all that is used again is used again. */
    private static void pieces() {
        for (int first = 0; first < TEXTS.length; first++) {
            for (int then = 0; then < TEXTS.length; then++) {
                Script before = used(new Script().piece(0, TEXTS[first]), 0);
                used(before.piece(0, TEXTS[(first + then) % TEXTS.length]), 0);
                dueLikeNew(before, TEXTS[then], 0, then + " behind " + first);
            }
        }
    }

    private static void faultyTexts() {
        for (int n = 0; n < FAULTY.length; n++) {
            for (int then = 0; then < TEXTS.length; then += 2) {
                Script before = used(new Script().piece(0, TEXTS[n % TEXTS.length]), 0).piece(0, FAULTY[n]);
                dueLikeNew(before, TEXTS[then], 0, then + " behind a faulty text, " + n);
                Script twice = new Script().piece(0, FAULTY[n]).piece(0, FAULTY[(n + 1) % FAULTY.length]);
                dueLikeNew(twice, TEXTS[then], 0, then + " behind two faulty texts, " + n);
            }
        }
    }

    /** What is read at one place leaves the other one as it was. */
    private static void bothPlaces() {
        for (int n = 0; n < TEXTS.length; n++) {
            int next = (n + 3) % TEXTS.length;
            Script old = used(new Script().piece(0, TEXTS[n]), 0).piece(1, TEXTS[next]).piece(1, TEXTS[n]).piece(1, TEXTS[next]);
            Script fresh = used(new Script().piece(1, TEXTS[next]).piece(0, TEXTS[n]), 0).text(TEXTS[next]).then(house -> house.read(1));
            CHECKS.dueSame("both places, " + n, old.all(), fresh.all());
        }
    }

    private static byte[] file(int division, int... bytes) {
        return Checks.join(Checks.bytes('M', 'T', 'h', 'd', 0, 0, 0, 6, 0, 1, 0, 1, division >> 8, division, 'M', 'T', 'r', 'k', 0, 0, 0, bytes.length), Checks.bytes(bytes));
    }

    private static void files() {
        List<byte[]> files = new ArrayList<>();
        files.add(file(96, 0, 255, 88, 4, 6, 3, 24, 8, 0, 255, 89, 2, 253, 1, 0, 255, 81, 3, 15, 66, 64, 0, 192, 3, 0, 144, 60, 99, 48, 64, 98, 48, 60, 0, 0, 255, 47, 0));
        files.add(file(960));
        files.add(file(1, 0, 144, 60, 1, 3, 62, 1, 1, 60, 0));
        files.add(file(7, 5, 149, 10, 11, 5, 133, 10, 0));
        files.add(file(50, 5, 149, 10, 11, 5, 241));
        files.add(file(60, 0, 192, 2, 0, 255, 89, 2, 7, 0, 0, 255, 88, 4, 12, 4, 0, 0, 0, 144, 60));
        for (int a = 0; a < files.size(); a++) {
            for (int b = 0; b < files.size(); b++) {
                for (int c = 0; c < 4; c++) {
                    Script old = new Script();
                    for (int n : new int[] {a, b, c}) {
                        old.bytes(files.get(n)).then(StaveHouse::open);
                    }
                    Script fresh = new Script().bytes(files.get(c)).then(StaveHouse::open);
                    CHECKS.dueSame("file " + c + " behind " + a + " and " + b, old.all(), fresh.all());
                    CHECKS.due("its text", old.ask(house -> house.down(16)), fresh.ask(house -> house.down(16)));
                    CHECKS.dueSame("its text", old.then(house -> house.down(16)).all(), fresh.then(house -> house.down(16)).all());
                }
            }
        }
    }
}
