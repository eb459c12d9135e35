import java.util.ArrayList;
import java.util.Arrays;
import java.util.LinkedHashMap;
import java.util.List;
import java.util.Map;
import java.util.function.IntToLongFunction;
import java.util.function.ToLongFunction;

/** Calls that are refused, of all promises: what they answer, and that nothing has changed behind them. */
public final class RefusedCallsTest {
    private static final Checks CHECKS = new Checks();
    private static final int MIN = Integer.MIN_VALUE;
    private static final int MAX = Integer.MAX_VALUE;
    private static final String ONE = "key -2 minor tempo 99 voice a treble 1{c4:4( d4') <eb4 g4>:2^ | f#4:8% r b4:2 c5:4}voice b bass 0{r:1 c3:4 d3 e3 f3}";
    private static final String OTHER = "time 3/8 let m={e4:8}voice x alto 2{use m f4 g4 use m r c4}voice y tenor 3{c3:4. g3}";
    private static final String WAITING = "voice later bass 0 {c4 d4 e4}";

    public static void main(String[] args) {
        refused();
        questions();
        othersAsked();
        tooManySounds();
        nothingWritten();
        fullTape();
        faultyTexts();
        faultyFiles();
        inAnEmptyHouse();
        CHECKS.finish();
    }

    /** One piece on lines and performed, the other one as it was read, a file open, a text written, another one on the tape. */
    private static Script state() {
        return new Script().piece(0, ONE).piece(1, OTHER).then(house -> house.lines(0, 230)).then(house -> house.perform(0)).then(house -> house.play(0, 25))
            .then(house -> house.file(0)).then(StaveHouse::again).then(StaveHouse::open).then(house -> house.down(16)).text(WAITING);
    }

    private static void dueRefused(Script before, String call, ToLongFunction<StaveHouse> refused, long want, long[] all) {
        CHECKS.due(call, before.ask(refused), want);
        CHECKS.dueSame("nothing changes behind " + call, before.copy().then(refused::applyAsLong).all(), all);
    }

    private static void refused() {
        Map<String, ToLongFunction<StaveHouse>> calls = new LinkedHashMap<>();
        for (int n : new int[] {MIN, -1, 21, 22, MAX}) {
            calls.put("end(" + n + ")", house -> house.end(n));
        }
        for (int h : new int[] {MIN, -1, 2, 3, MAX}) {
            calls.put("read(" + h + ")", house -> house.read(h));
            calls.put("lines(" + h + ", 500)", house -> house.lines(h, 500));
            calls.put("perform(" + h + ")", house -> house.perform(h));
            calls.put("file(" + h + ")", house -> house.file(h));
            calls.put("play(" + h + ", 5)", house -> house.play(h, 5));
        }
        for (int width : new int[] {MIN, 0, 199, 2001, MAX}) {
            calls.put("lines(0, " + width + ")", house -> house.lines(0, width));
            calls.put("lines(1, " + width + ")", house -> house.lines(1, width));
        }
        for (int n : new int[] {MIN, -1, 1001, MAX}) {
            calls.put("play(0, " + n + ")", house -> house.play(0, n));
        }
        for (int n : new int[] {-1, 0, 1, 1000, 1001}) {
            calls.put("play(1, " + n + ")", house -> house.play(1, n));
        }
        calls.put("file(1)", house -> house.file(1));
        for (int grid : new int[] {MIN, -4, 0, 1, 2, 3, 5, 7, 9, 15, 17, 31, 33, 64, MAX}) {
            calls.put("down(" + grid + ")", house -> house.down(grid));
        }
        Script before = state();
        long[] all = before.all();
        Script behind = state();
        calls.forEach((call, refused) -> {
            CHECKS.due(call, before.ask(refused), -1);
            behind.then(refused::applyAsLong);
        });
        boolean same = Arrays.equals(behind.all(), all);
        CHECKS.due("nothing changes behind all of them", same ? 1 : 0, 1);
        if (!same) {
            calls.forEach((call, refused) -> dueRefused(before, call, refused, -1, all));
        }
    }

    /** Questions change nothing either, whatever is asked. */
    private static void questions() {
        List<ToLongFunction<StaveHouse>> calls = new ArrayList<>();
        for (int h = -1; h <= 2; h++) {
            int place = h;
            for (int what = -1; what <= 14; what++) {
                int asked = what;
                calls.add(house -> house.look(place, asked));
                calls.add(house -> house.moment(place, 1, asked));
            }
            for (int v = -1; v <= 2; v++) {
                int voice = v;
                calls.add(house -> house.voice(place, voice, 2));
                calls.add(house -> house.name(place, voice));
                calls.add(house -> house.event(place, voice, 1, 3));
                calls.add(house -> house.pitch(place, voice, 1, 0, 0));
                calls.add(house -> house.note(place, voice, 1, 11));
                calls.add(house -> house.x(place, voice, 1));
                calls.add(house -> house.follows(place, voice, 1, 0));
                calls.add(house -> house.shape(place, voice, 0, 2, 1, 0, 4, 0));
            }
            calls.add(house -> house.line(place, 0, 2));
            calls.add(house -> house.stroke(place, 1, 0));
            calls.add(house -> house.sample(place, 1, 1));
            calls.add(house -> house.fault(place, 0, 1));
        }
        calls.add(house -> house.out(7));
        calls.add(house -> house.track(3));
        calls.add(house -> house.sound(1, 5));
        calls.add(house -> house.end(0));
        Script before = state();
        long[] all = before.all();
        Script asked = state();
        for (ToLongFunction<StaveHouse> call : calls) {
            asked.then(call::applyAsLong);
        }
        CHECKS.dueSame("nothing changes behind questions", asked.all(), all);
    }

    /** "NONE for others", "Integer.MIN_VALUE for others": what is asked for just below and just above all that can be. */
    private static void othersAsked() {
        StaveHouse house = state().made();
        IntToLongFunction[] calls = {what -> house.look(0, what), what -> house.voice(0, 0, what), what -> house.event(0, 0, 0, what), what -> house.pitch(0, 0, 0, 0, what),
            what -> house.note(0, 0, 0, what), what -> house.line(0, 0, what), what -> house.stroke(0, 0, what), what -> house.track(what), what -> house.sound(0, what),
            what -> house.sample(0, 0, what), what -> house.moment(0, 0, what), what -> house.fault(0, 0, what), what -> house.follows(0, 0, 1, what)};
        int[] counts = {14, 4, 8, 3, 12, 5, 4, 8, 6, 2, 9, 4, 4};
        long[] nones = {-1, -1, -1, MIN, -1, -1, -1, MIN, -1, MIN, MIN, -1, -1};
        for (int n = 0; n < calls.length; n++) {
            for (int what : new int[] {MIN, -2, -1, counts[n], counts[n] + 1, MAX}) {
                CHECKS.due("call " + n + " asked for " + what, calls[n].applyAsLong(what), nones[n]);
            }
        }
        // the first and the last of each can be had
        long[] firsts = {2, 0, 0, 28, 0, 0, 0, 3, 1, 0, 0, house.fault(0, 0, 0), 2};
        for (int n = 0; n < calls.length; n++) {
            CHECKS.due("call " + n + " asked for 0", calls[n].applyAsLong(0), firsts[n]);
            boolean told = calls[n].applyAsLong(counts[n] - 1) != nones[n];
            CHECKS.due("call " + n + " asked for the last", told ? 1 : 0, 1);
        }
    }

    /** "-2 if they are TOO MANY; nothing changes then". */
    private static void tooManySounds() {
        Script before = state().then(house -> house.read(0)).piece(1, "voice v treble 0{" + "c4:1% ".repeat(63) + "}").text(WAITING);
        CHECKS.due("it is there", before.ask(house -> house.voice(1, 0, 2)), 63);
        dueRefused(before, "perform(1)", house -> house.perform(1), -2, before.all());
    }

    /** "NONE, and the tape stays, if that was nothing, or more than 3000"; "NONE .. without a file". */
    private static void nothingWritten() {
        Script before = new Script().piece(0, ONE).then(house -> house.perform(0)).text(WAITING);
        long[] all = before.all();
        dueRefused(before, "again() of nothing", StaveHouse::again, -1, all);
        dueRefused(before, "down(4) without a file", house -> house.down(4), -1, all);
        Script large = new Script().piece(0, "voice v treble 0 {" + "c4:1% ".repeat(20) + "}").then(house -> house.perform(0)).then(house -> house.file(0)).text(WAITING);
        CHECKS.due("it is large", large.ask(house -> house.out(3000)) >= 0 ? 1 : 0, 1);
        dueRefused(large, "again() of too much", StaveHouse::again, -1, large.all());
        Script none = new Script().bytes(Checks.bytes('M', 'T', 'h', 'd', 0, 0, 0, 6, 0, 1, 0, 1, 0, 96, 'M', 'T', 'r', 'k', 0, 0, 0, 0)).then(StaveHouse::open).text(WAITING);
        CHECKS.due("it is open", none.ask(house -> house.track(0)), 1);
        dueRefused(none, "down(4) without sounds", house -> house.down(4), -1, none.all());
    }

    /** "NONE, and nothing comes, if .. there would be more than 3000". */
    private static void fullTape() {
        for (int size = 2979; size <= 3000; size++) {
            Script before = new Script().text(WAITING + " ".repeat(size - WAITING.length()));
            for (int n = 0; n <= 20; n++) {
                int count = n;
                boolean room = size + n <= 3000;
                CHECKS.due("end(" + n + ") behind " + size, before.ask(house -> house.end(count)), room ? size + n : -1);
                if (!room) {
                    CHECKS.due("nothing comes", before.copy().then(house -> house.end(count)).ask(house -> house.end(0)), size);
                }
            }
            // blanks wait, if the last twenty bytes were blanks; else a 0 is among them, and doesn't come
            CHECKS.due("the text is there", size < 2980 ? 0 : before.copy().then(house -> house.end(20)).ask(house -> house.read(0)), 0);
        }
    }

    /** "or its FAULT and 16 * its place (the piece there stays)": all is as it was, but the tape is empty. */
    private static void faultyTexts() {
        String voice = "voice v treble 0 {";
        String[] texts = {"A", "key", voice + "back{".repeat(8), "let m={}let m={}", "tempo 19", voice + "c4}voice w bass 0{c4:2}", voice + "c4 |}", voice + "c4 ".repeat(201) + "}",
            voice + "<c4 c4>}", voice + "c4~}", voice + "c4(}", voice + "slow 1/8{c4:32}}", voice + "[3/2:c4]}", "time 12/2 " + voice + "slow 1/4{c4:32} repeat 4{repeat 4{"
            + "slow 7/4{c4:1..}".repeat(9) + "}}}", voice + "}"};
        int[] faults = {1, 2, 3, 4, 5, 6, 7, 8, 9, 10, 11, 12, 13, 14, 15};
        // an empty tape, and twenty bytes that wait: those of a word that is no text
        Script before = state().then(house -> house.read(0)).piece(0, ONE).then(house -> house.lines(0, 230)).then(house -> house.perform(0)).then(house -> house.play(0, 25));
        Script empty = before.copy().then(house -> house.feed(1, 2, 3, 4, 5));
        long[] all = empty.all();
        for (int n = 0; n < texts.length; n++) {
            int place = n % 2;
            Script told = before.copy().text(texts[n]);
            CHECKS.due("fault of " + texts[n], told.ask(house -> house.read(place)) % 16, faults[n]);
            CHECKS.due("fault of " + texts[n] + " at the other place", told.ask(house -> house.read(1 - place)) % 16, faults[n]);
            told.then(house -> house.read(place)).then(house -> house.feed(1, 2, 3, 4, 5));
            CHECKS.dueSame("the pieces stay behind fault " + faults[n] + " at " + place, told.all(), all);
        }
    }

    /** "or its FAULT and 16 * its place (the file that was open stays)". */
    private static void faultyFiles() {
        byte[] head = Checks.bytes('M', 'T', 'h', 'd', 0, 0, 0, 6, 0, 1, 0, 1, 0, 48);
        byte[][] files = {Checks.bytes('x'), head, Checks.join(head, Checks.bytes('M', 'T', 'r', 'k', 0, 0, 0, 5, 0, 144, 60, 1, 0)),
            Checks.join(head, Checks.bytes('M', 'T', 'r', 'k', 0, 0, 0, 15, 0, 255, 89, 2, 1, 1, 0, 144, 60, 1, 0, 192, 3, 0, 241)), Checks.bytes('M', 'T', 'h', 'd', 0, 0, 0, 5), new byte[0]};
        int[] faults = {1, 2, 2, 1, 3, 2};
        Script before = state().then(house -> house.read(1)).piece(1, OTHER);
        long[] all = before.copy().then(house -> house.feed(1, 2, 3, 4, 5)).all();
        for (int n = 0; n < files.length; n++) {
            Script told = before.copy().bytes(files[n]);
            CHECKS.due("fault of file " + n, told.ask(StaveHouse::open) % 16, faults[n]);
            told.then(StaveHouse::open).then(house -> house.feed(1, 2, 3, 4, 5));
            CHECKS.dueSame("the file stays behind file " + n, told.all(), all);
        }
    }

    /** Without a piece, a file, anything written: all that can be asked. */
    private static void inAnEmptyHouse() {
        StaveHouse house = new StaveHouse();
        for (int h = -1; h <= 2; h++) {
            CHECKS.due("look", house.look(h, 0), -1);
            CHECKS.due("voice", house.voice(h, 0, 0), -1);
            CHECKS.due("name", house.name(h, 0), 0);
            CHECKS.due("event", house.event(h, 0, 0, 0), -1);
            CHECKS.due("pitch", house.pitch(h, 0, 0, 0, 0), MIN);
            CHECKS.due("note", house.note(h, 0, 0, 0), -1);
            CHECKS.due("lines", house.lines(h, 200), -1);
            CHECKS.due("line", house.line(h, 0, 0), -1);
            CHECKS.due("x", house.x(h, 0, 0), -1);
            CHECKS.due("perform", house.perform(h), -1);
            CHECKS.due("stroke", house.stroke(h, 0, 0), -1);
            CHECKS.due("file", house.file(h), -1);
            CHECKS.due("play", house.play(h, 0), -1);
            CHECKS.due("sample", house.sample(h, 0, 0), MIN);
            CHECKS.due("moment", house.moment(h, 0, 0), MIN);
            CHECKS.due("fault", house.fault(h, 0, 0), -1);
            CHECKS.due("follows", house.follows(h, 0, 1, 0), -1);
            CHECKS.due("shape", house.shape(h, 0, 0, 2, h, 0, 0, 0), -1);
        }
        CHECKS.due("out", house.out(0), -1);
        CHECKS.due("again", house.again(), -1);
        CHECKS.due("track", house.track(0), MIN);
        CHECKS.due("sound", house.sound(0, 0), -1);
        CHECKS.due("down", house.down(4), -1);
        CHECKS.due("end", house.end(0), 0);
        CHECKS.due("twenty 0s wait", house.end(20), 20);
        CHECKS.due("0 is no token", house.read(0), 1);
    }
}
