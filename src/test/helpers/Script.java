import java.util.ArrayList;
import java.util.List;
import java.util.function.Consumer;
import java.util.function.ToLongFunction;

/** A run of calls that is made again on a new house as often as is needed: no house is asked more than 512 times. */
public final class Script {
    private static final int CALLS = 512;
    private static final int TAPE = 3000;
    private final List<Consumer<StaveHouse>> steps = new ArrayList<>();
    private int calls;

    /** The same run, to which more can be added. */
    public Script copy() {
        Script copy = new Script();
        copy.steps.addAll(steps);
        copy.calls = calls;
        return copy;
    }

    public Script text(String text) {
        calls += 2 * ((text.length() + 19) / 20);
        steps.add(house -> Checks.put(house, text));
        return this;
    }

    public Script bytes(byte[] bytes) {
        calls += 2 * ((bytes.length + 19) / 20);
        steps.add(house -> Checks.put(house, bytes));
        return this;
    }

    public Script piece(int h, String text) {
        return text(text).then(house -> house.read(h));
    }

    public Script then(Consumer<StaveHouse> call) {
        calls++;
        steps.add(call);
        return this;
    }

    public StaveHouse made() {
        StaveHouse house = new StaveHouse();
        for (Consumer<StaveHouse> step : steps) {
            step.accept(house);
        }
        return house;
    }

    public long ask(ToLongFunction<StaveHouse> question) {
        return question.applyAsLong(made());
    }

    /** The answers to questions that change nothing. */
    public long[] ask(List<ToLongFunction<StaveHouse>> questions) {
        long[] answers = new long[questions.size()];
        StaveHouse house = null;
        int asked = CALLS;
        for (int i = 0; i < answers.length; i++) {
            if (asked >= CALLS) {
                house = made();
                asked = calls;
            }
            answers[i] = questions.get(i).applyAsLong(house);
            asked++;
        }
        return answers;
    }

    /** The first bytes of what was written latest. */
    public String written(long size) {
        List<ToLongFunction<StaveHouse>> questions = new ArrayList<>();
        for (int n = 0; n < size; n++) {
            int at = n;
            questions.add(house -> house.out(at));
        }
        StringBuilder text = new StringBuilder();
        for (long b : ask(questions)) {
            text.append((char) b);
        }
        return text.toString();
    }

    /** All that can be asked of both pieces, the file, what was written, the tape. */
    public long[] all() {
        List<ToLongFunction<StaveHouse>> questions = new ArrayList<>();
        for (int h = 0; h < 2; h++) {
            askPiece(questions, h);
            askPerformance(questions, h);
        }
        askFile(questions);
        questions.add(house -> house.end(0));
        long[] told = ask(questions);
        long[] changing = {ask(house -> house.read(0)), ask(house -> house.read(1)), ask(StaveHouse::open), ask(StaveHouse::again),
            ask(house -> house.file(0)), ask(house -> house.file(1)), ask(house -> house.play(0, 9)), ask(house -> house.play(1, 9)),
            ask(house -> house.end(20)), ask(house -> house.end(20) + house.read(0))};
        long[] all = new long[told.length + changing.length];
        System.arraycopy(told, 0, all, 0, told.length);
        System.arraycopy(changing, 0, all, told.length, changing.length);
        return all;
    }

    private void askPiece(List<ToLongFunction<StaveHouse>> questions, int h) {
        for (int n = 0; n < 14; n++) {
            int what = n;
            questions.add(house -> house.look(h, what));
        }
        long voices = ask(house -> house.look(h, 0));
        for (int n = 0; n < voices; n++) {
            askVoice(questions, h, n);
        }
        long moments = ask(house -> house.look(h, 7));
        for (int n = 0; n < 9 * moments; n++) {
            int at = n;
            questions.add(house -> house.moment(h, at / 9, at % 9));
        }
        long faults = ask(house -> house.look(h, 8));
        for (int n = 0; n < 4 * faults; n++) {
            int at = n;
            questions.add(house -> house.fault(h, at / 4, at % 4));
        }
        long lines = ask(house -> house.look(h, 10));
        for (int n = 0; n < 5 * lines; n++) {
            int at = n;
            questions.add(house -> house.line(h, at / 5, at % 5));
        }
    }

    private void askVoice(List<ToLongFunction<StaveHouse>> questions, int h, int v) {
        questions.add(house -> house.name(h, v));
        for (int n = 0; n < 4; n++) {
            int at = n;
            questions.add(house -> house.voice(h, v, at));
            for (int w = 0; w < 4; w++) {
                int other = w;
                questions.add(house -> house.follows(h, v, other, at));
                questions.add(house -> house.shape(h, v, 0, 2, h, other, at, 1));
            }
        }
        long events = ask(house -> house.voice(h, v, 2));
        for (int n = 0; n < 26 * events; n++) {
            int i = n / 26;
            int at = n % 26;
            questions.add(house -> at < 8 ? house.event(h, v, i, at) : house.pitch(h, v, i, (at - 8) / 3, (at - 8) % 3));
        }
        long notes = ask(house -> house.voice(h, v, 3));
        for (int n = 0; n < 13 * notes; n++) {
            int i = n / 13;
            int at = n % 13;
            questions.add(house -> at < 12 ? house.note(h, v, i, at) : house.x(h, v, i));
        }
    }

    private void askPerformance(List<ToLongFunction<StaveHouse>> questions, int h) {
        long strokes = ask(house -> house.look(h, 12));
        for (int n = 0; n < 4 * strokes; n++) {
            int at = n;
            questions.add(house -> house.stroke(h, at / 4, at % 4));
        }
        for (int n = 0; n < 60; n++) {
            int at = n;
            questions.add(house -> house.sample(h, at / 2, at % 2));
        }
    }

    private void askFile(List<ToLongFunction<StaveHouse>> questions) {
        for (int n = 0; n < 8; n++) {
            int what = n;
            questions.add(house -> house.track(what));
        }
        long sounds = ask(house -> house.track(7));
        for (int n = 0; n < 6 * sounds; n++) {
            int at = n;
            questions.add(house -> house.sound(at / 6, at % 6));
        }
        long written = Math.max(ask(StaveHouse::again), 20);
        for (int n = 0; n <= Math.min(written, TAPE); n++) {
            int at = n;
            questions.add(house -> house.out(at));
        }
    }
}
