import java.util.ArrayList;
import java.util.List;
import java.util.function.ToLongFunction;

/** Part VII and promises 23 and 24, sentence by sentence. */
public final class BoundsOfSamplesTest {
    private static final Checks CHECKS = new Checks();
    private static final String[] SCALE = {"c", "c#", "d", "d#", "e", "f", "f#", "g", "g#", "a", "a#", "b"};

    public static void main(String[] args) {
        boundsOfPlay();
        boundsOfSample();
        sinceThePerformance();
        codesBeginAnew();
        twoPieces();
        everyTone();
        turnsToTheLastDigit();
        shortSounds();
        longSounds();
        lateSounds();
        tempos();
        waves();
        forces();
        soLoudThatItIsCut();
        steepest();
        behindTheLastSound();
        CHECKS.finish();
    }

    private static Script performed(String text) {
        Script script = new Script().piece(0, text).then(house -> house.perform(0));
        CHECKS.due("performs " + text, script.ask(house -> house.perform(0)) >= 0 ? 1 : 0, 1);
        return script;
    }

    private static Script played(Script script, int samples) {
        for (int n = 0; n < samples / 1000; n++) {
            script.then(house -> house.play(0, 1000));
        }
        if (samples % 1000 > 0) {
            script.then(house -> house.play(0, samples % 1000));
        }
        return script;
    }

    /** Samples from one on, so many (1000 at most), against those that are reckoned anew. */
    private static void dueSamples(String text, int from, int count) {
        Script script = performed(text);
        SampleModel model = new SampleModel(script, from + count);
        played(script, from).then(house -> house.play(0, count));
        List<ToLongFunction<StaveHouse>> questions = new ArrayList<>();
        for (int n = 0; n < 2 * count; n++) {
            int at = n;
            questions.add(house -> house.sample(0, at / 2, at % 2));
        }
        long[] got = script.ask(questions);
        for (int n = 0; n < count; n++) {
            CHECKS.due("heard " + (from + n) + " of " + text, got[2 * n], model.heard[from + n]);
            CHECKS.due("code " + (from + n) + " of " + text, got[2 * n + 1], model.codes[from + n]);
        }
    }

    /** "The next n (0 .. 1000) SAMPLES .. NONE ahead of that, or for another n". */
    private static void boundsOfPlay() {
        StaveHouse house = CHECKS.house("voice v treble 0 {c4}");
        for (int n : new int[] {-1, 0, 1, 1000, 1001}) {
            CHECKS.due("play(0, " + n + ") ahead of perform()", house.play(0, n), -1);
        }
        house.perform(0);
        CHECKS.due("play(0, 0)", house.play(0, 0), 0);
        CHECKS.due("play(0, 1)", house.play(0, 1), 1);
        CHECKS.due("play(0, 999)", house.play(0, 999), 1000);
        CHECKS.due("play(0, 1000)", house.play(0, 1000), 2000);
        int last = house.sample(0, 999, 0);
        for (int n : new int[] {Integer.MIN_VALUE, -1000, -1, 1001, 1002, Integer.MAX_VALUE}) {
            CHECKS.due("play(0, " + n + ")", house.play(0, n), -1);
            CHECKS.due("nothing is made", house.look(0, 13), 2000);
            CHECKS.due("the latest stay", house.sample(0, 999, 0), last);
        }
        for (int h : new int[] {Integer.MIN_VALUE, -1, 1, 2, Integer.MAX_VALUE}) {
            CHECKS.due("play(" + h + ", 1)", house.play(h, 1), -1);
        }
        CHECKS.due("play(0, 0)", house.play(0, 0), 2000);
    }

    /** "Of the SAMPLES that the latest play() of a piece made, the i-th .. Integer.MIN_VALUE if there is none such". */
    private static void boundsOfSample() {
        StaveHouse house = CHECKS.house("voice v treble 0 {c4}");
        int none = Integer.MIN_VALUE;
        CHECKS.due("ahead of perform()", house.sample(0, 0, 0), none);
        house.perform(0);
        CHECKS.due("ahead of play()", house.sample(0, 0, 0), none);
        house.play(0, 5);
        for (int i : new int[] {Integer.MIN_VALUE, -1, 5, 6, 999, 1000, Integer.MAX_VALUE}) {
            CHECKS.due("sample " + i, house.sample(0, i, 0), none);
            CHECKS.due("code " + i, house.sample(0, i, 1), none);
        }
        for (int what : new int[] {Integer.MIN_VALUE, -1, 2, 3, Integer.MAX_VALUE}) {
            CHECKS.due("what " + what, house.sample(0, 0, what), none);
        }
        for (int h : new int[] {Integer.MIN_VALUE, -1, 1, 2, Integer.MAX_VALUE}) {
            CHECKS.due("of piece " + h, house.sample(h, 0, 0), none);
        }
        CHECKS.due("the fifth", house.sample(0, 4, 0) == none ? 1 : 0, 0);
        int fifth = house.sample(0, 4, 0);
        house.play(0, 2);
        CHECKS.due("the latest made two", house.sample(0, 2, 0), none);
        CHECKS.due("they go on", house.sample(0, 0, 0) == fifth ? 1 : 0, 0);
        house.play(0, 1000);
        CHECKS.due("the thousandth", house.sample(0, 999, 1) == none ? 1 : 0, 0);
        CHECKS.due("none more", house.sample(0, 1000, 1), none);
        house.play(0, 0);
        CHECKS.due("the latest made none", house.sample(0, 0, 0), none);
    }

    /** "how many were made since perform()". */
    private static void sinceThePerformance() {
        StaveHouse house = CHECKS.house("voice v treble 0 {c4}");
        house.perform(0);
        CHECKS.due("play", house.play(0, 700), 700);
        CHECKS.due("play", house.play(0, 700), 1400);
        CHECKS.due("look", house.look(0, 13), 1400);
        house.perform(0);
        CHECKS.due("look", house.look(0, 13), 0);
        CHECKS.due("play", house.play(0, 1), 1);
        CHECKS.due("perform of no piece", house.perform(1), -1);
        CHECKS.due("look", house.look(0, 13), 1);
        CHECKS.readAt(house, 0, "voice v treble 0 {c4}");
        CHECKS.due("a new piece", house.look(0, 13), 0);
        CHECKS.due("isn't performed", house.play(0, 1), -1);
    }

    /** "the predicted one 0 and the index 0 at first", "y = 0 at first": at each perform(). */
    private static void codesBeginAnew() {
        String text = "tempo 300 voice v treble 0 {!fff <c4 e4 g4>:32^}";
        Script once = performed(text).then(house -> house.play(0, 100));
        Script twice = performed(text).then(house -> house.play(0, 333)).then(house -> house.perform(0)).then(house -> house.play(0, 100));
        List<ToLongFunction<StaveHouse>> questions = new ArrayList<>();
        for (int n = 0; n < 200; n++) {
            int at = n;
            questions.add(house -> house.sample(0, at / 2, at % 2));
        }
        CHECKS.dueSame("performed twice", twice.ask(questions), once.ask(questions));
        CHECKS.due("the first one", once.ask(house -> house.sample(0, 0, 0)), 0);
        CHECKS.due("its code", once.ask(house -> house.sample(0, 0, 1)), 0);
    }

    private static void twoPieces() {
        Script both = new Script().piece(0, "voice v treble 1 {c4}").piece(1, "voice v treble 2 {g5}").then(house -> house.perform(0)).then(house -> house.perform(1))
            .then(house -> house.play(0, 40)).then(house -> house.play(1, 60)).then(house -> house.play(0, 40));
        Script one = performed("voice v treble 1 {c4}").then(house -> house.play(0, 40)).then(house -> house.play(0, 40));
        for (int n = 0; n < 40; n++) {
            int at = n;
            CHECKS.due("each goes on for itself", both.ask(house -> house.sample(0, at, 0)), one.ask(house -> house.sample(0, at, 0)));
        }
        CHECKS.due("made of the one", both.ask(house -> house.look(0, 13)), 80);
        CHECKS.due("made of the other", both.ask(house -> house.look(1, 13)), 60);
        CHECKS.due("the other's latest", both.ask(house -> house.sample(1, 59, 0)) != Integer.MIN_VALUE ? 1 : 0, 1);
        CHECKS.due("the other's latest", both.ask(house -> house.sample(1, 60, 0)), Integer.MIN_VALUE);
    }

    /** "TURN(t): .. divided (FLOOR) by 2^(9 - t / 12), if t / 12 is below 9, times 2^(t / 12 - 9) (modulo 2^32), if it is above". */
    private static void everyTone() {
        for (int tone = 12; tone < 120; tone++) {
            dueSamples("tempo 300 voice v treble 1 {!fff " + SCALE[tone % 12] + (tone / 12 - 1) + ":32-}", 0, 200);
        }
        for (String pitch : new String[] {"cbb0", "cb0", "b#8", "b##8"}) {
            dueSamples("tempo 300 voice v treble 1 {!fff " + pitch + ":32-}", 0, 300);
        }
    }

    private static void turnsToTheLastDigit() {
        // one more or less would be heard after some hundred thousand turns
        for (String letter : SCALE) {
            dueSamples("tempo 20 voice v treble 1 {!fff slow 8/1{" + letter + "8:1-}}", 300000, 400);
        }
    }

    /** "its RISE at x: 256 * x / 40 below 40"; "RISE at u .. * (400 - (x - u)) / 400"; "to z + 399". */
    private static void shortSounds() {
        for (int number = 0; number < 4; number++) {
            // 1, 2 and 3 ticks of 16 2/3 samples
            dueSamples("tempo 300 voice v treble " + number + " {!fff [3/1:slow 1/4{c5:32- r r}] r:4}", 0, 440);
            dueSamples("tempo 300 voice v treble " + number + " {!fff [3/1:slow 1/2{c5:32-} slow 1/4{r:32}] r:4}", 0, 470);
            dueSamples("tempo 300 voice v treble " + number + " {!fff slow 1/4{c5:32-} r:4}", 0, 470);
        }
        // one of them right behind the other
        dueSamples("tempo 299 voice v treble 0 {[3/1:slow 1/4{c5:32 d5 e5}] [3/1:slow 1/4{c5:32^ c5 c5}]}", 0, 600);
    }

    /** "else 256 - (x - 40) / 16, 128 at least". */
    private static void longSounds() {
        dueSamples("tempo 60 voice v treble 0 {!fff c4:2-}", 0, 200);
        dueSamples("tempo 60 voice v treble 0 {!fff c4:2-}", 1900, 300);
        dueSamples("tempo 60 voice v treble 0 {!fff c4:2-}", 15700, 800);
    }

    /** "a TICK's is FLOOR of TICK * 5000 by tempo". */
    private static void lateSounds() {
        dueSamples("tempo 300 voice v treble 1 {r:1 r:1 r:1 c4:16}", 3 * 384 * 5000 / 300 - 20, 150);
        dueSamples("tempo 20 voice v treble 2 {r:1. [7/4:c5:16 d5 c5 d5 c5 d5 c5]}", 384 * 3 / 2 * 250 - 20, 300);
        dueSamples("tempo 299 voice v treble 0 {slow 7/1{r:1} c5:32 d5 e5'}", 7 * 384 * 5000 / 299 - 5, 300);
        dueSamples("tempo 297 voice v treble 0 {slow 8/1{r:1} slow 8/1{r:1} slow 8/1{r:1} c5:32 d5 e5'}", 24 * 384 * 5000 / 297 - 5, 60);
    }

    private static void tempos() {
        for (int tempo : new int[] {20, 21, 59, 60, 119, 120, 121, 299, 300}) {
            dueSamples("tempo " + tempo + " voice v treble 0 {slow 1/4{c5:32 d5' e5- r} c5:32}", 0, 500);
        }
    }

    /** "WAVE by the VOICE's NUMBER". */
    private static void waves() {
        for (int number = 0; number < 4; number++) {
            dueSamples("tempo 300 voice v treble " + number + " {!fff c1:4^-}", 0, 1000);
            dueSamples("tempo 300 voice v treble " + number + " {!ppp c2:4-}", 0, 300);
        }
        dueSamples("tempo 300 voice a treble 0 {c4:8}voice b treble 1 {d4:8}voice c bass 2 {e4:8}voice d bass 3 {f4:8}", 0, 600);
    }

    private static void forces() {
        for (String loud : new String[] {"ppp", "pp", "p", "mp", "mf", "f", "ff", "fff"}) {
            dueSamples("tempo 300 voice v treble 3 {!" + loud + " c4:32 c4^}", 0, 300);
        }
    }

    /** "The SAMPLE m: all that sound together, -32768 .. 32767 (cut)". */
    private static void soLoudThatItIsCut() {
        StringBuilder text = new StringBuilder("tempo 20 ");
        for (String name : new String[] {"a", "b", "c", "d"}) {
            text.append("voice ").append(name).append(" treble 0 {!fff <b#1 c2 dbb2 b#2 c3 dbb3>:4^-}");
        }
        dueSamples(text.toString(), 0, 1000);
        dueSamples(text.toString().replace("treble 0", "treble 1"), 0, 1000);
        dueSamples(text.toString().replace("treble 0", "treble 2"), 0, 1000);
        dueSamples(text.toString().replace("treble 0", "treble 3"), 0, 1000);
        StaveHouse house = CHECKS.house(text.toString());
        house.perform(0);
        house.play(0, 200);
        int most = 0;
        int least = 0;
        for (int n = 0; n < 200; n++) {
            most = Math.max(most, house.sample(0, n, 0));
            least = Math.min(least, house.sample(0, n, 0));
        }
        CHECKS.due("the greatest that is heard", most, 32766);
        CHECKS.due("the least that is heard", least, -32767);
    }

    /** "predicted .. -32768 .. 32767 (cut); the index .. 0 .. 88 (cut)": so steep that the last steps of the table are taken. */
    private static void steepest() {
        String[][] chords = {{"b#7", "c8", "dbb8"}, {"a##7", "b7", "cb8"}, {"g##7", "a7", "bbb7"}, {"f##7", "g7", "abb7"}, {"c##8", "d8", "ebb8"}};
        for (String[] chord : chords) {
            StringBuilder text = new StringBuilder("tempo 20 ");
            for (String name : new String[] {"a", "b", "c", "d"}) {
                text.append("voice ").append(name).append(" treble 0 {!fff <").append(String.join(" ", chord)).append(">:4^- <").append(chord[0]).append(' ').append(chord[1])
                    .append(" b#1 c2 dbb2>:4^-}");
            }
            dueSamples(text.toString(), 0, 1000);
            dueSamples(text.toString(), 24000, 700);
            dueSamples(text.toString().replace("treble 0", "treble 1"), 0, 1000);
        }
        // each of these would have other codes, were a bound or one of the last steps one more or less
        for (String pitches : new String[] {"c##7 db7 ebb7 f7 gb7", "b##4 db6 f6 g6 abb6", "f##2 c#3 c#4 gb6 e8", "g#1 a1 b2", "f#6 g#6 a#6 c7", "cb6 d##6 fb6 bbb6 c8"}) {
            StringBuilder text = new StringBuilder("tempo 20 ");
            for (String name : new String[] {"a", "b", "c", "d"}) {
                text.append("voice ").append(name).append(" treble 0 {!fff <").append(pitches).append(">:4^-}");
            }
            dueSamples(text.toString(), 0, 1000);
        }
    }

    /** "SAMPLES go on behind the last SOUND". */
    private static void behindTheLastSound() {
        dueSamples("tempo 300 voice v treble 1 {!fff c4:32^}", 500, 1000);
        dueSamples("voice v treble 1 {r}", 0, 50);
        Script script = played(performed("tempo 300 voice v treble 1 {c4:32}"), 400000);
        CHECKS.due("made", script.ask(house -> house.look(0, 13)), 400000);
        CHECKS.due("heard", Math.abs(script.ask(house -> house.sample(0, 999, 0))) <= 1 ? 1 : 0, 1);
    }
}
