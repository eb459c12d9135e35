import java.util.ArrayList;
import java.util.List;
import java.util.Map;
import java.util.function.ToLongFunction;

/** Part VIII and promises 25 to 28, sentence by sentence. */
public final class BoundsOfStudiesTest {
    private static final Checks CHECKS = new Checks();
    private static final int MIN = Integer.MIN_VALUE;
    private static final String VOICE = "voice v treble 0 {";
    private static final String LETTERS = "cdefgab";
    private static final String[] SIGNS = {"bb", "b", "", "#", "##"};
    private static final int[] NATURALS = {0, 2, 4, 5, 7, 9, 11};

    public static void main(String[] args) {
        mostMoments();
        eventsInWhichItLies();
        classesEachOnce();
        everyChord();
        noChords();
        oneMomentAfterTheOther();
        inversions();
        tonicsAndDegrees();
        foreignClasses();
        parallels();
        hidden();
        crossings();
        leaps();
        sizesOfSteps();
        threeHundred();
        followingBounds();
        mostFollowing();
        shapeBounds();
        shapesOfRests();
        asked();
        CHECKS.finish();
    }

    private static String key(int fifths) {
        return "key " + (fifths < 0 ? "-" : "") + Math.abs(fifths);
    }

    private static int keyAlteration(int fifths, int letter) {
        String order = fifths > 0 ? "fcgdaeb" : "beadgcf";
        return order.indexOf(LETTERS.charAt(letter)) < Math.abs(fifths) ? Integer.signum(fifths) : 0;
    }

    /** "the places at which an EVENT of any VOICE begins, in order, each once": the most that there can be. */
    private static void mostMoments() {
        String[] firsts = {"c4:32 ", "slow 5/4{c4:32}", "slow 3/2{c4:32}", "c4:32.. "};
        String[] lasts = {"c4:32", "slow 3/4{c4:32}", "slow 1/2{c4:32}", "slow 1/4{c4:32}"};
        StringBuilder text = new StringBuilder();
        for (int v = 0; v < 4; v++) {
            text.append("voice ").append((char) ('s' + v)).append(" bass 0{").append(firsts[v]).append("repeat 4{repeat 4{repeat 4{c4:32 c4 c4}}} c4 c4 c4 c4 c4 c4 ").append(lasts[v])
                .append("}");
        }
        Script script = new Script().piece(0, text.toString());
        CHECKS.due("moments", script.ask(house -> house.look(0, 7)), 1 + 4 * 199);
        List<ToLongFunction<StaveHouse>> questions = new ArrayList<>();
        for (int n = 0; n < 2 * 797; n++) {
            int at = n;
            questions.add(house -> house.moment(0, at / 2, at % 2));
        }
        long[] got = script.ask(questions);
        for (int n = 0; n < 797; n++) {
            // 0, 4/128, 5/128, 6/128 ..
            CHECKS.due("place of " + n, got[2 * n] * 128, (n == 0 ? 0 : n + 3) * got[2 * n + 1]);
        }
        CHECKS.due("none more", script.ask(house -> house.moment(0, 797, 0)), MIN);
        CHECKS.due("the last one's classes", script.ask(house -> house.moment(0, 796, 2)), 1);
    }

    /** "At a MOMENT those EVENTS sound in which it lies". */
    private static void eventsInWhichItLies() {
        StaveHouse house = CHECKS.house("voice a treble 0{c5:1}voice b treble 0{r:4 e4:2 r:4}voice c bass 0{r:2 g3:2}");
        long[] classes = new long[house.look(0, 7)];
        for (int i = 0; i < classes.length; i++) {
            classes[i] = house.moment(0, i, 2);
        }
        CHECKS.dueRow("classes", classes, 1, 2, 3, 2);
        CHECKS.due("a chord in between", house.moment(0, 2, 3), 0);
        // not at its end any more
        StaveHouse end = CHECKS.house("voice a treble 0{c5:2 r}voice b treble 0{e4:2 e4:2}");
        CHECKS.due("till its end", end.moment(0, 0, 2), 2);
        CHECKS.due("not at it", end.moment(0, 1, 2), 1);
        CHECKS.due("rests have none", CHECKS.house(VOICE + "r}").moment(0, 0, 2), 0);
    }

    /** "its CLASSES are the LETTERS with ALTERATIONS of all their PITCHES, each once". */
    private static void classesEachOnce() {
        String[] signs = {"", "#", "b", "##"};
        StringBuilder text = new StringBuilder();
        for (int v = 0; v < 4; v++) {
            text.append("voice ").append((char) ('s' + v)).append(" bass 0{<");
            for (int n = 0; n < 6; n++) {
                text.append(LETTERS.charAt(n)).append(signs[v]).append(n % 2 == 0 ? "4 " : "3 ");
            }
            text.append(">}");
            CHECKS.due("classes of " + (v + 1) + " voices", CHECKS.house(text.toString()).moment(0, 0, 2), 6 * (v + 1));
        }
        CHECKS.due("one in all octaves", CHECKS.house(VOICE + "<c1 c2 c3 c4 c5 c6>}").moment(0, 0, 2), 1);
        CHECKS.due("the same tone is another class", CHECKS.house(VOICE + "<b#3 c4 dbb4>}").moment(0, 0, 2), 3);
    }

    private static final Map<String, Integer> KINDS = Map.ofEntries(Map.entry("4 7 -", 0), Map.entry("3 7 -", 1), Map.entry("3 6 -", 2), Map.entry("4 8 -", 3), Map.entry("4 7 10", 4),
        Map.entry("4 7 11", 5), Map.entry("3 7 10", 6), Map.entry("3 6 10", 7), Map.entry("3 6 9", 8), Map.entry("3 7 11", 9), Map.entry("4 - -", 0), Map.entry("3 - -", 1),
        Map.entry("4 - 10", 4), Map.entry("4 - 11", 5), Map.entry("3 - 10", 6), Map.entry("3 - 11", 9));

    /** Pitches of a chord of thirds over a root, and what is due of it. */
    private static final class Chord {
        String told;
        int kind = -1;
        int root;
        int alteration;
        boolean foreign;

        Chord(int root, int[] alterations, int fifths) {
            StringBuilder pitches = new StringBuilder();
            StringBuilder tones = new StringBuilder();
            int base = NATURALS[root] + alterations[0];
            for (int n = 0; n < 4; n++) {
                int letter = (root + 2 * n) % 7;
                if (alterations[n] == 9) {
                    tones.append(" -");
                    continue;
                }
                pitches.append(pitches.length() > 0 ? " " : "").append(LETTERS.charAt(letter)).append(SIGNS[alterations[n] + 2]).append(3 + (root + 2 * n) / 7);
                foreign |= alterations[n] != keyAlteration(fifths, letter);
                if (n > 0) {
                    tones.append(' ').append(Math.floorMod(NATURALS[letter] + alterations[n] - base, 12));
                }
            }
            told = "<" + pitches + ">:32";
            Integer found = KINDS.get(tones.toString().trim());
            if (found != null) {
                kind = found;
                this.root = root;
                alteration = alterations[0];
            }
        }
    }

    /** "a CLASS is the ROOT, if all other CLASSES stand 2, 4 or 6 LETTERS above it .. and the TONES above it (modulo 12) are ..". */
    private static void everyChord() {
        List<Chord> chords = new ArrayList<>();
        int fifths = 0;
        for (int root = 0; root < 7; root++) {
            for (int alteration = -1; alteration <= 1; alteration++) {
                for (int third = -2; third <= 2; third++) {
                    for (int n = 0; n < 36; n++) {
                        int fifth = n % 6 == 5 ? 9 : n % 6 - 2;
                        int seventh = n / 6 == 5 ? 9 : n / 6 - 2;
                        chords.add(new Chord(root, new int[] {alteration, third, fifth, seventh}, fifths));
                        if (chords.size() == 90) {
                            dueChords(chords, fifths);
                            chords.clear();
                            fifths = (fifths + 10) % 15 - 7;
                        }
                    }
                }
            }
        }
        dueChords(chords, fifths);
    }

    private static void dueChords(List<Chord> chords, int fifths) {
        StringBuilder text = new StringBuilder(key(fifths) + " major " + VOICE);
        for (Chord chord : chords) {
            text.append(chord.told).append(' ');
        }
        Script script = new Script().piece(0, text + "}");
        List<ToLongFunction<StaveHouse>> questions = new ArrayList<>();
        for (int n = 0; n < 9 * chords.size(); n++) {
            int at = n;
            questions.add(house -> house.moment(0, at / 9, at % 9));
        }
        long[] got = script.ask(questions);
        int tonic = Math.floorMod(4 * fifths, 7);
        for (int n = 0; n < chords.size(); n++) {
            Chord chord = chords.get(n);
            boolean is = chord.kind >= 0;
            CHECKS.due("kind of " + chord.told, got[9 * n + 3], chord.kind);
            CHECKS.due("root of " + chord.told, got[9 * n + 4], is ? chord.root : 0);
            CHECKS.due("alteration of " + chord.told, got[9 * n + 5], is ? chord.alteration : 0);
            CHECKS.due("inversion of " + chord.told, got[9 * n + 6], 0);
            CHECKS.due("degree of " + chord.told, got[9 * n + 7], is ? Math.floorMod(chord.root - tonic, 7) : 0);
            CHECKS.due("foreign is " + chord.told + " in " + fifths, got[9 * n + 8], is && chord.foreign ? 1 : 0);
        }
    }

    /** "each of these three at most once, one 2 above is there". */
    private static void noChords() {
        String[] none = {"c4 e4 eb5 g4", "c4 e4 g4 g#5", "c4 e4 g4 gb5", "c4 e4 g4 b4 bb5", "c4 e4 bb4 b5", "c4 c#5 e4 g4", "c4 g4 c5", "c4 g4 bb4", "c4 bb4 c5", "c4 d4 e4 g4",
            "c4 e4 f4 g4", "c4 g4 b4 d5", "c4 c5", "c4 e4 g4 b4 d5"};
        for (String pitches : none) {
            StaveHouse house = CHECKS.house(VOICE + "<" + pitches + ">}");
            CHECKS.due("kind of " + pitches, house.moment(0, 0, 3), -1);
            for (int what = 4; what <= 8; what++) {
                CHECKS.due("0 without a chord, " + what, house.moment(0, 0, what), 0);
            }
        }
        CHECKS.due("one pitch alone", CHECKS.house(VOICE + "c#4}").moment(0, 0, 3), -1);
        CHECKS.due("no pitch at all", CHECKS.house(VOICE + "r}").moment(0, 0, 3), -1);
        CHECKS.due("no pitch at all", CHECKS.house(VOICE + "r}").moment(0, 0, 8), 0);
    }

    /** What sounded at a moment that was asked for ahead of another one doesn't count there. */
    private static void oneMomentAfterTheOther() {
        StaveHouse house = CHECKS.house(VOICE + "<g3 b3 d4 f4> <c4 e4 g4> <b3 d4 f4 ab4> <a3 c4 e4> r}");
        int[] kinds = {4, 0, 8, 1, -1};
        int[] roots = {4, 0, 6, 5, 0};
        for (int from = 0; from < 5; from++) {
            for (int to = 0; to < 5; to++) {
                house.moment(0, from, 3);
                CHECKS.due("kind of " + to + " behind " + from, house.moment(0, to, 3), kinds[to]);
                CHECKS.due("root of " + to + " behind " + from, house.moment(0, to, 4), roots[to]);
            }
        }
    }

    /** "INVERSION: how many thirds the BASS's CLASS stands above the ROOT (0 .. 3)"; "its BASS the PITCH with the least TONE". */
    private static void inversions() {
        for (int root = 0; root < 7; root++) {
            for (int bass = 0; bass < 4; bass++) {
                StringBuilder pitches = new StringBuilder();
                for (int n = 0; n < 4; n++) {
                    pitches.append(n > 0 ? " " : "").append(LETTERS.charAt((root + 2 * n) % 7)).append(n == bass ? 2 : 5 - n % 2);
                }
                StaveHouse house = CHECKS.house(VOICE + "<" + pitches + ">}");
                CHECKS.due("inversion of " + pitches, house.moment(0, 0, 6), bass);
                CHECKS.due("root of " + pitches, house.moment(0, 0, 4), root);
            }
        }
        // in whichever voice
        CHECKS.due("in the first voice", CHECKS.house("voice a treble 0{e2}voice b bass 0{<c3 g3>}").moment(0, 0, 6), 1);
        CHECKS.due("in the second voice", CHECKS.house("voice a treble 0{e4}voice b bass 0{<c4 g3>}").moment(0, 0, 6), 2);
    }

    /** "Its TONIC: the LETTER (4 * k mod 7 in 0 .. 6; of minor 5 more, mod 7)"; "DEGREE: LETTERS from the KEY's TONIC up to the ROOT (0 .. 6)". */
    private static void tonicsAndDegrees() {
        String majors = "cgdaebfcgdaebfc";
        String minors = "aebfcgdaebfcgda";
        for (int fifths = -7; fifths <= 7; fifths++) {
            for (int minor = 0; minor < 2; minor++) {
                int tonic = LETTERS.indexOf((minor == 0 ? majors : minors).charAt(fifths + 7));
                StringBuilder text = new StringBuilder(key(fifths) + (minor == 0 ? " major " : " minor ") + VOICE);
                for (int letter = 0; letter < 7; letter++) {
                    text.append('<');
                    for (int n = 0; n < 3; n++) {
                        int at = (letter + 2 * n) % 7;
                        text.append(LETTERS.charAt(at)).append(SIGNS[keyAlteration(fifths, at) + 2]).append(3 + (letter + 2 * n) / 7).append(' ');
                    }
                    text.append("> ");
                }
                StaveHouse house = CHECKS.house(text + "}");
                for (int letter = 0; letter < 7; letter++) {
                    CHECKS.due("root of " + letter, house.moment(0, letter, 4), letter);
                    CHECKS.due("degree of " + letter + " in " + fifths + ", " + minor, house.moment(0, letter, 7), Math.floorMod(letter - tonic, 7));
                    CHECKS.due("foreign of " + letter + " in " + fifths, house.moment(0, letter, 8), 0);
                }
            }
        }
    }

    /** "FOREIGN, if a CLASS hasn't the ALTERATION that its LETTER has in the KEY": each letter alone. */
    private static void foreignClasses() {
        String[] chords = {"a3 c#4 e4", "d4 f#4 a4", "c4 eb4 g4", "bb3 d4 f4", "d4 f#4 a4 c5", "e4 g#4 b4", "f4 ab4 c5", "g4 bb4 d5"};
        for (String chord : chords) {
            CHECKS.due("foreign is " + chord, CHECKS.house(VOICE + "<" + chord + ">}").moment(0, 0, 8), 1);
        }
        for (String chord : new String[] {"a3 c4 e4", "d4 f4 a4", "c4 e4 g4", "b3 d4 f4", "d4 f4 a4 c5", "e4 g4 b4", "f4 a4 c5", "g4 b4 d5"}) {
            CHECKS.due("at home is " + chord, CHECKS.house(VOICE + "<" + chord + ">}").moment(0, 0, 8), 0);
        }
    }

    private static void dueFaults(String text, long... want) {
        StaveHouse house = CHECKS.house(text);
        long[] got = new long[4 * house.look(0, 8)];
        for (int i = 0; i < got.length; i++) {
            got[i] = house.fault(0, i / 4, i % 4);
        }
        CHECKS.dueRow(text, got, want);
        CHECKS.due("none more in " + text, house.fault(0, got.length / 4, 0), -1);
    }

    private static void dueTwo(String upper, String lower, long... want) {
        dueFaults("voice a treble 0 {" + upper + "} voice b bass 0 {" + lower + "}", want);
    }

    /** "both LINES go the same way (TONES both rise or both fall): 1 .. 0 and 0 at both; 2 they are 4 and 7 at both". */
    private static void parallels() {
        dueTwo("c5 d5", "c3 d3", 1, 1, 0, 1);
        dueTwo("d5 c5", "d3 c3", 1, 1, 0, 1);
        // one of them stays, or goes the other way, by octaves
        dueTwo("c5 c4", "c3 c3");
        dueTwo("c4 c5", "c3 c3");
        dueTwo("c5 c5", "c3 c4");
        dueTwo("c5 c5", "c3 c2");
        dueTwo("c5 c4", "c2 c3");
        dueTwo("c4 c5", "c3 c2");
        // by steps alone: the tones don't change
        dueTwo("b#4 c5", "b#3 c4", 1, 6, 0, -1, 1, 6, 1, -1);
        dueTwo("g4 a4", "c4 d4", 1, 2, 0, 1);
        dueTwo("a4 g4", "d4 c4", 1, 2, 0, 1);
        dueTwo("g6 a6", "c3 d3", 1, 2, 0, 1);
        // the one of higher tone above the other one, whichever voice has it
        dueTwo("c3 d3", "g3 a3", 1, 2, 0, 1);
        dueTwo("c4 d4", "f3 g3", 1, 2, 0, 1);
        dueTwo("f3 g3", "c4 d4", 1, 2, 0, 1);
        dueTwo("c4 d4", "g3 a3");
        // a fifth that is diminished at one of both
        dueTwo("f4 g4", "b3 c4");
        dueTwo("g4 f4", "c4 b3");
        // where one has no line, or begins no event
        dueTwo("r d4", "c3 d3");
        dueTwo("c4 r", "c3 d3");
        dueTwo("c4 r d4", "c3 r d3");
        dueTwo("c4:2", "c3:4 d3");
    }

    /** "3 so .. at the later one, not the same at i, and the higher LINE at the later one has gone by more than two STEPS". */
    private static void hidden() {
        dueTwo("e4 g4", "b3 c4");
        dueTwo("d4 g4", "a3 c4", 1, 3, 0, 1);
        dueTwo("b4 g4", "d4 c4");
        dueTwo("c5 g4", "d4 c4", 1, 3, 0, 1);
        dueTwo("a4 c5", "a3 c4", 1, 1, 0, 1);
        dueTwo("a4 c5", "g3 c4");
        dueTwo("g4 c5", "a3 c4", 1, 3, 0, 1);
        // from an octave to a fifth, and back
        dueTwo("c4 g4", "c3 c4", 1, 3, 0, 1);
        dueTwo("d4 c5", "g3 c4", 1, 3, 0, 1);
        // the higher one at the later moment counts, however far the lower one goes
        dueTwo("f4 g4", "d3 c4");
        dueTwo("c4 d4", "a3 a4", 1, 3, 0, 1, 1, 4, 0, 1);
        // with the same tone u's
        dueTwo("g3 c4", "b3 c4", 1, 3, 0, 1);
        dueTwo("b3 c4", "g3 c4");
    }

    /** "4 (both LINES there at the later one): v's TONE is above u's, and it wasn't at i, or one had no LINE there". */
    private static void crossings() {
        dueTwo("d4 d4", "c4 e4", 1, 4, 0, 1);
        dueTwo("d4 d4", "c4 d4");
        dueTwo("d4 d4", "d4 e4", 1, 4, 0, 1);
        dueTwo("d4 d4 d4", "e4 e4 f4");
        dueTwo("d4 d4 d4", "e4 d4 e4", 2, 4, 0, 1);
        dueTwo("r d4", "e4 e4", 1, 4, 0, 1);
        dueTwo("d4 d4", "r e4", 1, 4, 0, 1);
        dueTwo("r d4", "r e4", 1, 4, 0, 1);
        dueTwo("d4 r", "c4 e4");
        dueTwo("d4 d4", "c4 r");
        // at the first moment it is none; no event need begin
        dueTwo("d4", "e4");
        dueTwo("d4:2", "c4:4 e4", 1, 4, 0, 1);
        dueTwo("e4:4 c4", "d4:2", 1, 4, 0, 1);
        // by tones: e sharp is above f flat
        dueTwo("fb4 fb4", "d4 e#4", 1, 4, 0, 1, 1, 6, 1, -1);
        dueTwo("e#4 e#4", "d4 fb4", 1, 6, 1, -1);
        dueFaults("voice a treble 0{e4 c4}voice b treble 0{d4 e4}voice c bass 0{c4 f4}", 1, 4, 0, 1, 1, 4, 0, 2, 1, 4, 1, 2);
    }

    /** "5 (u alone, an EVENT of it begins; LINES at both): it goes by more than seven STEPS". */
    private static void leaps() {
        dueFaults(VOICE + "c4 c5}");
        dueFaults(VOICE + "c4 d5}", 1, 5, 0, -1);
        dueFaults(VOICE + "c5 c4}");
        dueFaults(VOICE + "d5 c4}", 1, 5, 0, -1);
        dueFaults(VOICE + "c0 b8}", 1, 5, 0, -1);
        dueFaults(VOICE + "c4 r d5}");
        dueFaults(VOICE + "c#4 cb5}", 1, 6, 0, -1);
        // the highest pitch of chords
        dueFaults(VOICE + "<c4 c5> <d5 c2>}");
        dueFaults(VOICE + "<c4 c5> c4}");
        dueFaults(VOICE + "<c4 d5> c4}", 1, 5, 0, -1);
        dueFaults("voice a treble 0{c5:2 c5}voice b bass 0{c3:4 d4 c3 d4}", 1, 5, 1, -1, 2, 5, 1, -1, 3, 5, 1, -1);
    }

    /** "6 (likewise): by s STEPS, and TONES that are, modulo 12 with s modulo 7, of 0: not 0; 1: not 1 or 2; ..". */
    private static void sizesOfSteps() {
        int[][] meant = {{0, 0}, {1, 2}, {3, 4}, {5, 5}, {7, 7}, {8, 9}, {10, 11}};
        for (int from = 0; from < 7; from++) {
            for (int alteration = -2; alteration <= 2; alteration++) {
                StringBuilder text = new StringBuilder(VOICE);
                List<Long> want = new ArrayList<>();
                int moment = 0;
                int low = NATURALS[from] + alteration + 60;
                for (int s = 0; s <= 9; s++) {
                    for (int other = -2; other <= 2; other++) {
                        int step = 28 + from + s;
                        int high = 12 * (step / 7 + 1) + NATURALS[step % 7] + other;
                        int tones = s == 0 ? Math.abs(high - low) : high - low;
                        int size = Math.floorMod(tones, 12);
                        boolean wrong = size < meant[s % 7][0] || size > meant[s % 7][1];
                        String a = LETTERS.charAt(from) + SIGNS[alteration + 2] + "4 ";
                        String b = LETTERS.charAt(step % 7) + SIGNS[other + 2] + step / 7 + " ";
                        // upwards and downwards
                        text.append(a).append(b).append("r ").append(b).append(a).append("r ");
                        for (int n = 0; n < 2; n++) {
                            if (s > 7) {
                                want.addAll(List.of((long) moment + 1, 5L, 0L, -1L));
                            }
                            if (wrong) {
                                want.addAll(List.of((long) moment + 1, 6L, 0L, -1L));
                            }
                            moment += 3;
                        }
                        if (moment > 190) {
                            dueFaults(text + "}", want.stream().mapToLong(n -> n).toArray());
                            text = new StringBuilder(VOICE);
                            want.clear();
                            moment = 0;
                        }
                    }
                }
                dueFaults(text + "}", want.stream().mapToLong(n -> n).toArray());
            }
        }
    }

    /** "300 at most are told". */
    private static void threeHundred() {
        String upper = "repeat 4{repeat 4{repeat 3{c4:32 d5 c4 d5}}} c4 d5 c4 d5 c4 d5 c4 d5";
        for (int leaps = 99; leaps <= 103; leaps++) {
            StringBuilder lower = new StringBuilder("slow 1/2{c1:32} ");
            for (int n = 0; n < leaps; n++) {
                lower.append(n % 2 == 0 ? "d2:32 " : "c1:32 ");
            }
            // 800 128ths in all
            int left = 800 - 2 - 4 * leaps;
            for (int size = 128; size >= 4; size /= 2) {
                for (; left >= size; left -= size) {
                    lower.append("r:").append(128 / size).append(' ');
                }
            }
            lower.append(left == 2 ? "slow 1/2{r:32}" : "");
            StaveHouse house = CHECKS.house("voice a treble 0 {" + upper + "} voice b bass 0 {" + lower + "}");
            int count = Math.min(300, 199 + leaps);
            CHECKS.due("faults", house.look(0, 8), count);
            CHECKS.due("the last one's kind", house.fault(0, count - 1, 1), 5);
            CHECKS.due("none more", house.fault(0, count, 1), -1);
            CHECKS.due("none more", house.fault(0, 300, 1), -1);
            if (leaps <= 101) {
                int moment = house.fault(0, count - 1, 0);
                CHECKS.due("the last one's place", house.moment(0, moment, 0), 199);
                CHECKS.due("the last one's place", house.moment(0, moment, 1), 32);
            }
        }
    }

    private static void dueFollows(String ahead, String behind, long... want) {
        StaveHouse house = CHECKS.house("voice a treble 0 {" + ahead + "} voice b bass 0 {" + behind + "}");
        long[] row = new long[4];
        for (int what = 0; what < 4; what++) {
            row[what] = house.follows(0, 0, 1, what);
        }
        CHECKS.dueRow(behind + " behind " + ahead, row, want);
    }

    /** "if d, the place of v's first EVENT that is no rest less that of u's, is above 0"; "0 of all if it doesn't, or for 0 EVENTS". */
    private static void followingBounds() {
        dueFollows("c4 d4 e4 r", "r c4 d4 e4", 3, 0, 1, 4);
        dueFollows("c4 d4 e4", "c4 d4 e4", 0, 0, 0, 0);
        dueFollows("r c4 d4", "c4 d4 e4", 0, 0, 0, 0);
        dueFollows("r r r", "r c4 d4", 0, 0, 0, 0);
        dueFollows("r c4 d4", "r r r", 0, 0, 0, 0);
        dueFollows("r r", "r r", 0, 0, 0, 0);
        dueFollows("r:8 r:4 r:8", "r:4 r:4", 0, 0, 0, 0);
        // the least place that is above 0
        dueFollows("c4 d4 slow 1/4{r:32}", "slow 1/4{r:32} c4:4 d4", 2, 0, 1, 128);
        dueFollows("slow 1/4{r:32} c4:4 d4", "c4 d4 slow 1/4{r:32}", 0, 0, 0, 0);
        // the first one's length is another: none
        dueFollows("c4:4 d4 r", "r c4:8 d4 r:4", 0, 0, 0, 0);
        // rests against rests, of the same length
        dueFollows("c4:4 r d4 r:2", "r:2 c4:4 r d4", 3, 0, 1, 2);
        dueFollows("c4:4 r d4 r:2", "r:2 c4:4 r:8 r d4:4", 1, 0, 1, 2);
        dueFollows("c4:4 r d4 r:2", "r:2 c4:4 c4 d4", 1, 0, 1, 2);
        dueFollows("c4:4 d4 d4 r:2", "r:2 c4:4 r d4", 1, 0, 1, 2);
        // up to the end of either voice
        dueFollows("c4:2 c4:2", "r:2 c4:2", 1, 0, 1, 2);
        dueFollows("c4:4 r r r", "r c4 r r", 3, 0, 1, 4);
        // by steps, whatever the alterations; by the highest pitch
        dueFollows("c4 d#4 eb4 r", "r c5 d5 e##5", 3, 7, 1, 4);
        dueFollows("c4 d4 e4 r", "r c0 d0 e0", 3, -28, 1, 4);
        dueFollows("<c4 a3> <g3 d4> e4 r", "r <c3 c4> d4 <c3 e4>", 3, 0, 1, 4);
        dueFollows("c4 d4 e4 r", "r c4 d4 f4", 2, 0, 1, 4);
        // the same length told in another way
        dueFollows("[3/2:c4:8 c4 c4] r:4", "r:4 [3/2:c4:8 c4 c4]", 3, 0, 1, 4);
        dueFollows("[3/2:c4:8 c4 c4] r:4", "r:4 [6/4:c4:8 c4 c4]", 3, 0, 1, 4);
    }

    /** As many events as a voice can have. */
    private static void mostFollowing() {
        String music = "repeat 4{repeat 4{repeat 4{c4:32 d4 e4}}} c4 d4 e4 f4 g4 a4 b4";
        StaveHouse house = CHECKS.house("voice a treble 0 {" + music + " r:4}voice b bass 0{r:4 " + music + "}");
        CHECKS.due("199 events", house.follows(0, 0, 1, 0), 199);
        CHECKS.due("by 1/4", house.follows(0, 0, 1, 3), 4);
        StaveHouse full = CHECKS.house("voice a treble 0 {" + music + " c4:4}voice b bass 0{r:4 " + music + "}");
        CHECKS.due("200 and 200 events", full.follows(0, 0, 1, 0), 199);
        StaveHouse late = CHECKS.house("time 12/2 voice a treble 0 {c4:32 " + "slow 8/1{r:1}".repeat(74) + "slow 7/1{r:1} r:2 r:4 r:8 r:16}voice b bass 0{" + "slow 8/1{r:1}".repeat(74)
            + "slow 7/1{r:1} r:2 r:4 r:8 r:16 c4:32}");
        CHECKS.due("the greatest place", late.follows(0, 0, 1, 0), 1);
        CHECKS.due("above", late.follows(0, 0, 1, 2), 16 * 599 + 15);
        CHECKS.due("below", late.follows(0, 0, 1, 3), 16);
    }

    /** "n EVENTS (2 .. 20)"; "NONE if there is none such (no such VOICE, n, kind, too)". */
    private static void shapeBounds() {
        StaveHouse house = CHECKS.house(VOICE + "c4 ".repeat(25) + "}");
        for (int n = -1; n <= 26; n++) {
            boolean is = n >= 2 && n <= 20;
            CHECKS.due("shape of " + n, house.shape(0, 0, 0, n, 0, 0, 0, 0), is ? 0 : -1);
            CHECKS.due("the last one of " + n, house.shape(0, 0, 0, n, 0, 0, 0, 25 - n), is ? 25 - n : -1);
            CHECKS.due("one more of " + n, house.shape(0, 0, 0, n, 0, 0, 0, 26 - n), -1);
            CHECKS.due("of the last " + n, house.shape(0, 0, 25 - n, n, 0, 0, 0, 0), is ? 0 : -1);
            CHECKS.due("of one beyond the last " + n, house.shape(0, 0, 26 - n, n, 0, 0, 0, 0), -1);
        }
        for (int kind = -2; kind <= 10; kind++) {
            CHECKS.due("kind " + kind, house.shape(0, 0, 0, 2, 0, 0, kind, 0), kind >= 0 && kind <= 7 ? 0 : -1);
        }
        for (int k : new int[] {Integer.MIN_VALUE, -1, 24, 25, Integer.MAX_VALUE}) {
            CHECKS.due("k " + k, house.shape(0, 0, 0, 2, 0, 0, 0, k), -1);
            CHECKS.due("i " + k, house.shape(0, 0, k, 2, 0, 0, 0, 0), -1);
        }
        for (int n : new int[] {Integer.MIN_VALUE, Integer.MAX_VALUE}) {
            CHECKS.due("n " + n, house.shape(0, 0, 0, n, 0, 0, 0, 0), -1);
            CHECKS.due("kind " + n, house.shape(0, 0, 0, 2, 0, 0, n, 0), -1);
        }
        // in a voice that has fewer events than the shape
        StaveHouse few = CHECKS.house("voice a treble 0{c4:4 c4 c4 c4}voice b bass 0{c4:4 c4 r:2}voice c bass 0{c4:1}");
        CHECKS.due("in as many", few.shape(0, 0, 0, 2, 0, 1, 0, 0), 0);
        CHECKS.due("in fewer", few.shape(0, 0, 0, 4, 0, 1, 0, 0), -1);
        CHECKS.due("in one", few.shape(0, 0, 0, 2, 0, 2, 4, 0), -1);
        // 200 events
        StaveHouse most = CHECKS.house(VOICE + "repeat 4{repeat 4{repeat 4{c4:32 c4 c4}}} c4 c4 c4 c4 c4 c4 c4 c4}");
        CHECKS.due("the last of them", most.shape(0, 0, 0, 20, 0, 0, 0, 180), 180);
        CHECKS.due("none more", most.shape(0, 0, 0, 20, 0, 0, 0, 181), -1);
        CHECKS.due("from the last ones", most.shape(0, 0, 180, 20, 0, 0, 7, 180), 180);
    }

    /** "rests against rests, LINES by STEPS from the first one of them .. that has one"; "LENGTHS all by one and the same fraction". */
    private static void shapesOfRests() {
        StaveHouse house = CHECKS.house("voice a treble 0{r:4 c4 e4 r:8 g4 d4 f4 r:4}voice b bass 0{r:2 c3 e3}");
        CHECKS.due("shape with rests by twice their length", house.shape(0, 0, 0, 3, 0, 1, 4, 0), 0);
        CHECKS.due("not by the same", house.shape(0, 0, 0, 3, 0, 1, 0, 0), -1);
        CHECKS.due("a rest first, turned", house.shape(0, 0, 0, 2, 0, 0, 2, 0), -1);
        StaveHouse all = CHECKS.house(VOICE + "r:4 r r:8 r r:4 r}");
        CHECKS.due("rests alone", all.shape(0, 0, 0, 2, 0, 0, 0, 1), 4);
        CHECKS.due("rests alone, by any fraction", all.shape(0, 0, 0, 2, 0, 0, 4, 1), 2);
        CHECKS.due("rests alone, turned", all.shape(0, 0, 1, 2, 0, 0, 2, 0), 3);
        StaveHouse steps = CHECKS.house(VOICE + "c4 e4 d#4 f4 d4 c4 a3 b4 d4}");
        CHECKS.due("by steps, not tones", steps.shape(0, 0, 0, 2, 0, 0, 0, 1), 2);
        CHECKS.due("mirrored", steps.shape(0, 0, 0, 2, 0, 0, 1, 0), 3);
        CHECKS.due("mirrored, once more", steps.shape(0, 0, 0, 2, 0, 0, 1, 1), 5);
        CHECKS.due("turned", steps.shape(0, 0, 0, 2, 0, 0, 2, 0), 3);
        CHECKS.due("mirrored and turned", steps.shape(0, 0, 0, 2, 0, 0, 3, 0), 0);
    }

    /** "Integer.MIN_VALUE for others"; "NONE for others, or if there is none such"; "or u is v". */
    private static void asked() {
        StaveHouse none = new StaveHouse();
        CHECKS.due("moment without a piece", none.moment(0, 0, 0), MIN);
        CHECKS.due("fault without a piece", none.fault(0, 0, 0), -1);
        CHECKS.due("follows without a piece", none.follows(0, 0, 1, 0), -1);
        CHECKS.due("shape without a piece", none.shape(0, 0, 0, 2, 0, 0, 0, 0), -1);
        StaveHouse house = CHECKS.house("voice a treble 0{c4 d5}voice b bass 0{r c3}");
        for (int what : new int[] {Integer.MIN_VALUE, -1, 9, 10, Integer.MAX_VALUE}) {
            CHECKS.due("moment, " + what, house.moment(0, 0, what), MIN);
            CHECKS.due("fault, " + what, house.fault(0, 0, what), -1);
            CHECKS.due("follows, " + what, house.follows(0, 0, 1, what), -1);
        }
        CHECKS.due("fault, 4", house.fault(0, 0, 4), -1);
        CHECKS.due("follows, 4", house.follows(0, 0, 1, 4), -1);
        CHECKS.due("fault, 3 of 5", house.fault(0, 0, 3), -1);
        CHECKS.due("fault, 2 of 5", house.fault(0, 0, 2), 0);
        for (int i : new int[] {Integer.MIN_VALUE, -1, 2, 3, Integer.MAX_VALUE}) {
            CHECKS.due("moment " + i, house.moment(0, i, 0), MIN);
            CHECKS.due("follows of voice " + i, house.follows(0, i, 1, 0), -1);
            CHECKS.due("follows by voice " + i, house.follows(0, 0, i, 0), -1);
            CHECKS.due("shape in voice " + i, house.shape(0, 0, 0, 2, 0, i, 0, 0), -1);
            CHECKS.due("shape of voice " + i, house.shape(0, i, 0, 2, 0, 0, 0, 0), -1);
        }
        for (int i : new int[] {Integer.MIN_VALUE, -1, 1, 2, Integer.MAX_VALUE}) {
            CHECKS.due("fault " + i, house.fault(0, i, 0), -1);
            CHECKS.due("moment of piece " + i, house.moment(i, 0, 0), MIN);
            CHECKS.due("fault of piece " + i, house.fault(i, 0, 0), -1);
            CHECKS.due("follows of piece " + i, house.follows(i, 0, 1, 0), -1);
            CHECKS.due("shape of piece " + i, house.shape(i, 0, 0, 2, 0, 0, 0, 0), -1);
            CHECKS.due("shape in piece " + i, house.shape(0, 0, 0, 2, i, 0, 0, 0), -1);
        }
        CHECKS.due("u is v", house.follows(0, 0, 0, 0), -1);
        CHECKS.due("u is v", house.follows(0, 1, 1, 3), -1);
    }
}
