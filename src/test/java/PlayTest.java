import java.util.ArrayList;
import java.util.List;
import java.util.function.ToLongFunction;

/** Promises 23 and 24: play, sample; the samples are reckoned anew here, one by one, as the document tells them. */
public final class PlayTest {
    private static final Checks CHECKS = new Checks();
    public static void main(String[] args) {
        byHand();
        for (int number = 0; number < 4; number++) {
            byFormula("voice v treble " + number + " {c4:16 b##8:32' cbb0:32^ r:16 g#5:8%}", 3500, 137);
        }
        byFormula("tempo 300 voice a treble 0 {!fff c4:16 c4:32 c4:32} voice b bass 1 {!fff <c4 e4 g4 c5 e5 g5>:8}", 2000, 1000);
        byFormula("tempo 20 voice a treble 2 {slow 1/4{c8:32 d8 e8 r} r:16} voice b bass 3 {c3:32. r:32.}", 1500, 250);
        byFormula("tempo 60 voice v treble 2 {c4}", 4000, 1000);
        loudest();
        parts();
        behindTheLast();
        wrongAsked();
        CHECKS.finish();
    }

    private static StaveHouse performed(String text) {
        StaveHouse house = CHECKS.house(text);
        CHECKS.due("performs " + text, house.perform(0) >= 0 ? 1 : 0, 1);
        return house;
    }

    private static void byHand() {
        StaveHouse house = performed("voice v treble 0 {c4}");
        CHECKS.due("play(0, 3)", house.play(0, 3), 3);
        // 96 * 6 * 72 / 1024 = 40, the half of it; then 96 * 12 * 72 / 1024 = 81
        int[] heard = {0, 20, 50};
        int[] codes = {0, 7, 7};
        for (int i = 0; i < 3; i++) {
            CHECKS.due("heard " + i, house.sample(0, i, 0), heard[i]);
            CHECKS.due("code " + i, house.sample(0, i, 1), codes[i]);
        }
    }

    private static void byFormula(String text, int samples, int atOnce) {
        Script script = new Script().piece(0, text).then(house -> house.perform(0));
        SampleModel model = new SampleModel(script, samples);
        for (int from = 0; from < samples; from += atOnce) {
            int made = from + atOnce;
            CHECKS.due("play", script.ask(house -> house.play(0, atOnce)), made);
            script.then(house -> house.play(0, atOnce));
            CHECKS.due("look", script.ask(house -> house.look(0, 13)), made);
            List<ToLongFunction<StaveHouse>> questions = new ArrayList<>();
            for (int n = 0; n < 2 * Math.min(atOnce, samples - from); n++) {
                int at = n;
                questions.add(house -> house.sample(0, at / 2, at % 2));
            }
            long[] got = script.ask(questions);
            for (int n = 0; n < got.length; n += 2) {
                CHECKS.due("heard " + (from + n / 2) + " of " + text, got[n], model.heard[from + n / 2]);
                CHECKS.due("code " + (from + n / 2) + " of " + text, got[n + 1], model.codes[from + n / 2]);
            }
        }
    }

    /** So loud that samples and what is predicted are cut, and the greatest steps are taken. */
    private static void loudest() {
        StringBuilder text = new StringBuilder("tempo 20 ");
        for (String word : new String[] {"a", "b", "c", "d"}) {
            text.append("voice ").append(word).append(" treble 0 {!fff <c3 c#4 d5 c6 c7 c8>:32^ <c2 c3 c4 c5 c6 c7>^}");
        }
        byFormula(text.toString(), 1900, 1000);
        byFormula(text.toString().replace("treble 0", "treble 1"), 1900, 1000);
    }

    private static void parts() {
        String text = "voice v treble 3 {c4:8 <d4 g4>}";
        Script whole = new Script().piece(0, text).then(house -> house.perform(0)).then(house -> house.play(0, 900));
        Script parts = new Script().piece(0, text).then(house -> house.perform(0)).then(house -> house.play(0, 300));
        CHECKS.due("look at the samples", parts.ask(house -> house.look(0, 13)), 300);
        parts.then(house -> house.play(0, 0));
        CHECKS.due("the latest play() made none", parts.ask(house -> house.sample(0, 0, 0)), Integer.MIN_VALUE);
        CHECKS.due("600", parts.ask(house -> house.play(0, 600)), 900);
        parts.then(house -> house.play(0, 600));
        CHECKS.dueSame("the same in parts", parts.ask(samples(0, 600)), whole.ask(samples(300, 900)));
        CHECKS.due("performed anew", parts.ask(house -> house.perform(0)), 3);
        parts.then(house -> house.perform(0));
        CHECKS.due("no samples since then", parts.ask(house -> house.look(0, 13)), 0);
        CHECKS.due("from the beginning", parts.ask(house -> house.play(0, 50)), 50);
        parts.then(house -> house.play(0, 50));
        CHECKS.dueSame("from the beginning", parts.ask(samples(0, 50)), whole.ask(samples(0, 50)));
        CHECKS.due("not behind them", parts.ask(house -> house.sample(0, 50, 0)), Integer.MIN_VALUE);
    }

    /** What is heard and the codes of samples, from one to ahead of another one. */
    private static List<ToLongFunction<StaveHouse>> samples(int from, int to) {
        List<ToLongFunction<StaveHouse>> questions = new ArrayList<>();
        for (int n = 2 * from; n < 2 * to; n++) {
            int at = n;
            questions.add(house -> house.sample(0, at / 2, at % 2));
        }
        return questions;
    }

    private static void behindTheLast() {
        StaveHouse house = performed("tempo 300 voice v treble 1 {c4:32}");
        int made = 0;
        for (int n = 0; n < 3; n++) {
            made += 1000;
            CHECKS.due("samples go on", house.play(0, 1000), made);
        }
        CHECKS.due("and are all but still", Math.abs(house.sample(0, 999, 0)) <= 1 ? 1 : 0, 1);
        StaveHouse rest = performed("voice v treble 1 {r}");
        CHECKS.due("no sound at all", rest.play(0, 7), 7);
        CHECKS.due("is 0", rest.sample(0, 6, 0), 0);
    }

    private static void wrongAsked() {
        StaveHouse house = CHECKS.house("voice v treble 0 {c4}");
        CHECKS.due("play ahead of perform()", house.play(0, 1), -1);
        CHECKS.due("sample ahead of perform()", house.sample(0, 0, 0), Integer.MIN_VALUE);
        house.perform(0);
        CHECKS.due("sample ahead of play()", house.sample(0, 0, 0), Integer.MIN_VALUE);
        CHECKS.due("play(0, 1000)", house.play(0, 1000), 1000);
        CHECKS.due("play(0, -1)", house.play(0, -1), -1);
        CHECKS.due("play(0, 1001)", house.play(0, 1001), -1);
        CHECKS.due("play(1, 1)", house.play(1, 1), -1);
        CHECKS.due("play(2, 1)", house.play(2, 1), -1);
        CHECKS.due("they are there still", house.sample(0, 999, 0) == Integer.MIN_VALUE ? 0 : 1, 1);
        CHECKS.due("sample, 2", house.sample(0, 0, 2), Integer.MIN_VALUE);
        CHECKS.due("sample, -1", house.sample(0, 0, -1), Integer.MIN_VALUE);
        CHECKS.due("sample 1000", house.sample(0, 1000, 0), Integer.MIN_VALUE);
        CHECKS.due("sample -1", house.sample(0, -1, 0), Integer.MIN_VALUE);
        CHECKS.due("sample of piece 1", house.sample(1, 0, 0), Integer.MIN_VALUE);
        CHECKS.due("sample of piece 2", house.sample(2, 0, 0), Integer.MIN_VALUE);
    }
}
