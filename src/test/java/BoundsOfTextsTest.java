import java.util.ArrayList;
import java.util.List;

/** Part I, sentence by sentence: each bound that it tells, what stands at it, just below and just above. */
public final class BoundsOfTextsTest {
    private static final Checks CHECKS = new Checks();
    private static final String VOICE = "voice v treble 0 {";
    private static final String SIGNS = "{}[]<>():/.|~!'^-%=";
    private static final String[] WORDS = {"key", "major", "minor", "time", "tempo", "let", "voice", "treble", "bass", "alto", "tenor", "repeat",
        "alt", "use", "move", "mirror", "back", "slow", "r", "ppp", "pp", "p", "mp", "mf", "f", "ff", "fff"};

    public static void main(String[] args) {
        bytesBetweenTokens();
        tokensAsLongAsCanBe();
        pitches();
        numbers();
        words();
        voicesAndLets();
        headsOnce();
        names();
        namesThatStood();
        chordsOfTwoToSix();
        points();
        marksOnce();
        louds();
        alternatives();
        openings();
        boundsOfNumbers();
        lengthsOfNotes();
        theEnd();
        theFirstTokenThatIsWrong();
        ofOneTokenTheLeast();
        withoutThem();
        fullTape();
        CHECKS.finish();
    }

    private static void right(String text) {
        CHECKS.dueFault(0, text);
    }

    private static void wrong(int fault, String text) {
        CHECKS.dueFault(fault, text);
    }

    private static void dueRead(String text, int want) {
        StaveHouse house = new StaveHouse();
        Checks.put(house, text);
        CHECKS.due("read of " + text, house.read(0), want);
    }

    private static boolean isRunByte(int b) {
        return b >= 'a' && b <= 'z' || b >= '0' && b <= '9' || b == '#';
    }

    /** "Bytes 9, 10, 13 and 32 stand between TOKENS"; "else it is none (nor is any other byte)". */
    private static void bytesBetweenTokens() {
        for (int b = 0; b < 256; b++) {
            boolean blank = b == 9 || b == 10 || b == 13 || b == 32;
            boolean token = isRunByte(b) && b != '#' || SIGNS.indexOf(b) >= 0;
            dueRead(String.valueOf((char) b), blank ? 2 + 16 : token ? 2 : 1);
            if (SIGNS.indexOf(b) < 0) {
                int at = VOICE.length();
                dueRead(VOICE + "c4" + (char) b + "d4}", blank ? 0 : isRunByte(b) ? 1 + 16 * at : 1 + 16 * (at + 2));
            }
        }
        right("\t\n\r voice\tv\ntreble\r0 { \t\n\r c4 } \t\n\r ");
    }

    /** "TOKENS, as long as can be". */
    private static void tokensAsLongAsCanBe() {
        wrong(2, "@voicev treble 0 {c4}");
        wrong(2, "voice @vtreble 0 {c4}".replace("@vtreble 0", "vtreble @0"));
        wrong(1, "voice v @treble0 {c4}");
        wrong(1, VOICE + "@c4c4}");
        wrong(1, VOICE + "@4c}");
        wrong(1, VOICE + "@rc4}");
        right("voice v treble 0{c4:2.'r:4|<c4 e4>:4!p[3/2:c4:8 c4 c4]}");
    }

    /** "a letter a .. g, then nothing, #, ##, b or bb, then a digit 0 .. 8". */
    private static void pitches() {
        String[] signs = {"", "#", "##", "b", "bb", "###", "bbb", "#b", "b#"};
        int[] alterations = {0, 1, 2, -1, -2};
        int[] naturals = {9, 11, 0, 2, 4, 5, 7};
        for (char letter = 'a'; letter <= 'z'; letter++) {
            for (int s = 0; s < signs.length; s++) {
                for (int digit = 0; digit < 10; digit++) {
                    String run = letter + signs[s] + digit;
                    boolean pitch = letter <= 'g' && s < 5 && digit <= 8;
                    StaveHouse house = new StaveHouse();
                    Checks.put(house, VOICE + run + "}");
                    CHECKS.due("read of " + run, house.read(0), pitch ? 0 : 1 + 16 * VOICE.length());
                    if (pitch) {
                        CHECKS.due("step of " + run, house.pitch(0, 0, 0, 0, 0), 7 * digit + (letter - 'a' + 5) % 7);
                        CHECKS.due("alteration of " + run, house.pitch(0, 0, 0, 0, 1), alterations[s]);
                        CHECKS.due("tone of " + run, house.pitch(0, 0, 0, 0, 2), 12 * (digit + 1) + naturals[letter - 'a'] + alterations[s]);
                    }
                }
            }
        }
        wrong(1, VOICE + "@4c}");
        wrong(2, VOICE + "@c}");
        wrong(1, VOICE + "@c#}");
    }

    /** "a NUMBER: one to four digits". */
    private static void numbers() {
        right("tempo 99 " + VOICE + "c4}");
        right("tempo 099 " + VOICE + "c4}");
        right("tempo 0099 " + VOICE + "c4}");
        wrong(1, "tempo @00099 " + VOICE + "c4}");
        right("key 7 major " + VOICE + "c4:0032}");
        wrong(5, "tempo @9999 " + VOICE + "c4}");
        wrong(1, "tempo @10000 " + VOICE + "c4}");
    }

    /** "a WORD: one to eight letters". */
    private static void words() {
        for (int size = 1; size <= 8; size++) {
            String word = "qwxyzijk".substring(0, size);
            StaveHouse house = CHECKS.house("let " + word + "={}voice " + word + " bass 0 {use " + word + " c4}");
            long name = 0;
            for (int n = 0; n < size; n++) {
                name = 256 * name + word.charAt(n);
            }
            CHECKS.due("name of " + word, house.name(0, 0), name);
        }
        wrong(1, "voice @qwxyzijkl bass 0 {c4}");
        wrong(1, "let @qwxyzijkl = {}");
        wrong(1, VOICE + "use @qwxyzijkl}");
        wrong(1, "voice @q1 bass 0 {c4}");
    }

    /** "{ HEAD } VOICE { VOICE }, four VOICES at most"; "six lets"; "the fifth voice, the seventh let". */
    private static void voicesAndLets() {
        StringBuilder lets = new StringBuilder();
        StringBuilder voices = new StringBuilder();
        for (int n = 0; n < 7; n++) {
            String name = String.valueOf((char) ('g' + n));
            if (n < 6) {
                wrong(2, lets + "@");
                lets.append("let ").append(name).append("={c4}");
                right(lets + VOICE + "use " + name + "}");
            } else {
                wrong(2, lets + "@let " + name + "={c4}" + VOICE + "c4}");
            }
            if (n < 4) {
                voices.append("voice ").append(name).append(" alto 1{c4}");
                CHECKS.due("voices", CHECKS.house(voices.toString()).look(0, 0), n + 1);
            } else {
                wrong(2, voices + "@voice " + name + " alto 1{c4}");
            }
        }
        // the head ends where the first voice begins
        wrong(2, VOICE + "c4}@key 0 major");
        wrong(2, VOICE + "c4}@time 4/4");
        wrong(2, VOICE + "c4}@let q={}");
    }

    /** "Of key, time and tempo one at most"; "a second key, time, tempo". */
    private static void headsOnce() {
        String[] heads = {"key 1 minor ", "time 3/8 ", "tempo 200 "};
        for (int a = 0; a < 3; a++) {
            for (int b = 0; b < 3; b++) {
                if (a == b) {
                    wrong(2, heads[a] + "@" + heads[b] + VOICE + "c4}");
                    wrong(2, heads[a] + heads[(a + 1) % 3] + "let m={}@" + heads[b] + VOICE + "c4}");
                } else {
                    right(heads[a] + heads[b] + VOICE + "c4}");
                    right(heads[a] + "let m={}" + heads[b] + heads[3 - a - b] + VOICE + "c4}");
                }
            }
        }
    }

    /** "NAME: a WORD that is none of those told here". */
    private static void names() {
        for (String word : WORDS) {
            wrong(2, "let @" + word + "={}" + VOICE + "c4}");
            wrong(2, "voice @" + word + " bass 0 {c4}");
            wrong(2, VOICE + "use @" + word + "}");
        }
        for (String word : new String[] {"keys", "ke", "majo", "times", "temp", "le", "voices", "basso", "alt0".substring(0, 2), "repeats", "us",
            "moves", "mirro", "bac", "slows", "rr", "pppp", "mpp", "m", "ffff", "fp", "pf", "clef", "name"}) {
            right("let " + word + "={c4}voice " + word + " bass 0 {use " + word + "}");
        }
        for (char letter = 'a'; letter <= 'z'; letter++) {
            if ("rpf".indexOf(letter) < 0) {
                right("let " + letter + "={c4}voice " + letter + " tenor 3 {use " + letter + "}");
            }
        }
    }

    /** "4 a NAME of a let or voice that stood already as one of the same sort, or behind use none of a let that has ended". */
    private static void namesThatStood() {
        wrong(4, "let m={}let n={}let @m={}" + VOICE + "c4}");
        wrong(4, "let m={}let n={}let @n={}" + VOICE + "c4}");
        wrong(4, "voice m bass 0{c4}voice n bass 0{c4}voice o bass 0{c4}voice @m bass 0{c4}");
        wrong(4, "voice m bass 0{c4}voice n bass 0{c4}voice o bass 0{c4}voice @o bass 0{c4}");
        right("let m={c4}voice m bass 0{use m}voice n bass 0{use m}");
        wrong(4, "let m={use @m}" + VOICE + "c4}");
        wrong(4, "let m={use @n}let n={}" + VOICE + "c4}");
        right("let m={c4}let n={use m}" + VOICE + "use n}");
        wrong(4, "voice m bass 0{use @m}");
        wrong(4, "let mm={c4}" + VOICE + "use @m}");
        wrong(4, "let m={c4}" + VOICE + "use @mm}");
    }

    /** "two to six PITCHES"; "a seventh PITCH". */
    private static void chordsOfTwoToSix() {
        String[] pitches = {"c4", "d4", "e4", "f4", "g4", "a4", "b4"};
        wrong(2, VOICE + "<@>}");
        wrong(2, VOICE + "<c4@>}");
        wrong(2, VOICE + "<@r>}");
        for (int size = 2; size <= 7; size++) {
            String chord = "<" + String.join(" ", List.of(pitches).subList(0, Math.min(size, 6)));
            if (size < 7) {
                CHECKS.due("pitches", CHECKS.house(VOICE + chord + ">}").event(0, 0, 0, 4), size);
            } else {
                wrong(2, VOICE + chord + " @b4>}");
            }
        }
    }

    /** "LENGTH: : NUMBER and one or two points, or none". */
    private static void points() {
        right(VOICE + "c4:8 c4:8. c4:8.. r:8.. <c4 d4>:8..}");
        wrong(2, VOICE + "c4:8..@.}");
        wrong(2, VOICE + "r:8..@.}");
        wrong(2, VOICE + "<c4 d4>:8..@.}");
        wrong(2, VOICE + "c4@.}");
        wrong(2, VOICE + "c4:@.}");
        wrong(2, VOICE + "c4:8@:8}");
        wrong(2, VOICE + "c4:@}");
        wrong(2, VOICE + "| @:8}");
    }

    /** "MARK: ~ ( ) ' ^ - %, each once at most"; "a MARK that stood already". */
    private static void marksOnce() {
        String marks = "~()'^-%";
        for (int a = 0; a < marks.length(); a++) {
            StaveHouse house = new StaveHouse();
            String mark = marks.substring(a, a + 1);
            wrong(2, VOICE + "c4" + mark + "@" + mark + " c4}");
            wrong(2, VOICE + "c4:4" + marks + "@" + mark + " c4}");
            wrong(2, VOICE + "<c4 d4>" + mark + "@" + mark + " c4}");
            wrong(2, VOICE + "r@" + mark + "}");
            wrong(2, VOICE + "@" + mark + "}");
            Checks.put(house, VOICE + "c4(" + (mark.equals("(") ? "" : mark).replace(")", "") + " c4)" + (mark.equals(")") ? "" : mark)
                .replace("(", "").replace("~", "") + "}");
            CHECKS.due("read with " + mark, house.read(0), 0);
            int bit = 1 << a;
            long first = house.event(0, 0, 0, 5);
            CHECKS.due("marks with " + mark, first, mark.equals(")") ? 2 : 2 | bit);
        }
        StaveHouse all = CHECKS.house(VOICE + "c4( c4%-^'()~ c4)}".replace("()", ")("));
        CHECKS.due("all marks", all.event(0, 0, 1, 5), 127);
    }

    /** "! LOUD, one of the last eight words". */
    private static void louds() {
        for (String word : WORDS) {
            int loud = List.of("ppp", "pp", "p", "mp", "mf", "f", "ff", "fff").indexOf(word);
            if (loud >= 0) {
                CHECKS.due("loudness " + word, CHECKS.house(VOICE + "!" + word + " c4}").event(0, 0, 0, 6), loud);
            } else {
                wrong(2, VOICE + "!@" + word + " c4}");
            }
        }
        // neither numbers nor pitches, whatever they are
        for (int number = 0; number < 130; number++) {
            wrong(2, VOICE + "!@" + number + " c4}");
        }
        for (String sign : new String[] {"bb", "b", "", "#", "##"}) {
            for (int step = 0; step < 63; step++) {
                wrong(2, VOICE + "!@" + "cdefgab".charAt(step % 7) + sign + step / 7 + " c4}");
            }
        }
        wrong(2, VOICE + "!@pppp c4}");
        wrong(2, VOICE + "!@! p c4}");
    }

    /** "the MUSICS behind alt: as many as can be". */
    private static void alternatives() {
        right(VOICE + "repeat 2{c4}alt{c4}}");
        right(VOICE + "repeat 2{c4}alt" + "{c4}".repeat(20) + "}");
        wrong(2, VOICE + "repeat 2{c4}alt@}");
        wrong(2, VOICE + "repeat 2{c4}alt{c4}@alt{c4}}");
        wrong(2, VOICE + "repeat 2{c4}@{c4}}");
        wrong(2, VOICE + "@alt{c4}}");
    }

    /** "3 it would be the ninth { or [ open within one another"; "The { of a let and of a VOICE count among the eight". */
    private static void openings() {
        String[] openers = {"back{", "repeat 2{", "repeat 2{}alt{", "repeat 2{}alt{}{", "move c4 d4{", "mirror c4{", "slow 1/1{", "[2/2:"};
        for (String opener : openers) {
            char sign = opener.indexOf('[') < 0 ? '{' : '[';
            String close = sign == '{' ? "}" : "]";
            int at = opener.indexOf(sign);
            String inner = sign == '{' ? "c4" : "";
            for (String begin : new String[] {VOICE + "c4 ", "let m={"}) {
                String six = begin + "back{".repeat(6) + opener + inner + close + "}".repeat(7);
                right(six + (begin.equals("let m={") ? VOICE + "c4}" : ""));
                wrong(3, begin + "back{".repeat(7) + opener.substring(0, at) + "@" + opener.substring(at));
            }
        }
        // what has closed is open no more
        right(VOICE + "back{c4}".repeat(20) + "back{".repeat(7) + "c4}" + "back{c4}".repeat(9) + "}".repeat(7));
        right("let m={back{back{c4}}}let n={back{back{c4}}}" + VOICE + "back{".repeat(7) + "use m use n" + "}".repeat(8));
        wrong(3, "let m={back{back{c4}}}" + VOICE + "back{".repeat(7) + "back@{");
        wrong(3, VOICE + "[2/2:".repeat(7) + "@[2/2:");
        right(VOICE + "c4" + "[2/2:".repeat(7) + "]".repeat(7) + "}");
    }

    private static void dueBounds(String ahead, String behind, List<Integer> allowed, int... asked) {
        for (int n : asked) {
            String text = allowed.contains(n) ? ahead + n + behind : ahead + "@" + n + behind;
            CHECKS.dueFault(5, text);
        }
    }

    private static List<Integer> from(int least, int most) {
        List<Integer> row = new ArrayList<>();
        for (int n = least; n <= most; n++) {
            row.add(n);
        }
        return row;
    }

    private static int[] upTo(int most) {
        int[] row = new int[most + 1];
        for (int n = 0; n <= most; n++) {
            row[n] = n;
        }
        return row;
    }

    /** "5 a NUMBER out of its bounds". */
    private static void boundsOfNumbers() {
        String voice = VOICE + "c4}";
        dueBounds("key ", " major " + voice, from(0, 7), upTo(12));
        dueBounds("key -", " minor " + voice, from(0, 7), upTo(12));
        dueBounds("time ", "/4 " + voice, from(1, 12), upTo(17));
        dueBounds("time 4/", " " + voice, List.of(2, 4, 8, 16), upTo(66));
        dueBounds("tempo ", " " + voice, from(20, 300), 0, 1, 2, 19, 20, 21, 30, 200, 299, 300, 301, 302, 999, 9999);
        dueBounds("voice v bass ", " {c4}", from(0, 3), upTo(9));
        dueBounds(VOICE + "c4:", "}", List.of(1, 2, 4, 8, 16, 32), upTo(130));
        dueBounds(VOICE + "r:", ".}", List.of(1, 2, 4, 8, 16, 32), upTo(66));
        dueBounds(VOICE + "<c4 d4>:", "..}", List.of(1, 2, 4, 8, 16, 32), upTo(66));
        dueBounds(VOICE + "c4 [", "/1:]}", from(2, 9), upTo(20));
        dueBounds(VOICE + "c4 [2/", ":]}", from(1, 9), upTo(20));
        dueBounds(VOICE + "c4 repeat ", " {}}", from(2, 4), upTo(20));
        dueBounds(VOICE + "c4 slow ", "/1{}}", from(1, 8), upTo(20));
        dueBounds(VOICE + "c4 slow 1/", "{}}", from(1, 8), upTo(20));
    }

    /** "Its VALUE is 1 over the NUMBER, with one point 3 halves of it, with two 7 quarters". */
    private static void lengthsOfNotes() {
        for (int number = 1; number <= 32; number *= 2) {
            for (int points = 0; points < 3; points++) {
                StaveHouse house = CHECKS.house(VOICE + "c4:" + number + ".".repeat(points) + "}");
                int above = points == 0 ? 1 : points == 1 ? 3 : 7;
                int below = number << points;
                CHECKS.due("above of 1/" + number + " and " + points, house.event(0, 0, 0, 2), above);
                CHECKS.due("below of 1/" + number + " and " + points, house.event(0, 0, 0, 3), below);
            }
        }
    }

    /** "2 it can't stand there (the end, too, at the TAPE's length". */
    private static void theEnd() {
        String text = "key - 3 minor time 6 / 8 tempo 99 let m = { c4 : 8 . ~ c4 } voice v alto 1 { use m < c4 e4 > : 4 repeat 2 { r } alt { ! p c4 }"
            + " [ 3 / 2 : c4 c4 c4 ] move c4 d4 { c4 } mirror c4 { c4 } back { c4 } slow 1 / 2 { c4 } | }";
        StaveHouse whole = new StaveHouse();
        Checks.put(whole, text);
        CHECKS.due("read of the whole text", whole.read(0), 0);
        for (int at = 0; at < text.length(); at++) {
            if (text.charAt(at) == ' ') {
                dueRead(text.substring(0, at), 2 + 16 * at);
                dueRead(text.substring(0, at + 1), 2 + 16 * (at + 1));
            }
        }
    }

    /** "FAULTS of the text, the first TOKEN's that is wrong". */
    private static void theFirstTokenThatIsWrong() {
        wrong(5, "tempo @301 key 8 major");
        wrong(2, "tempo @key A");
        wrong(1, "tempo @A key");
        wrong(4, "let m={}let @m={A");
        wrong(5, VOICE + "c4:@3 A}");
        wrong(1, VOICE + "c4 @A c4:3}");
        // faults of the text come ahead of all that is judged when it is gone through
        wrong(5, VOICE + "<c4 c4> c4~ d4) c4:@3}");
        wrong(2, VOICE + "} @x");
    }

    /** "(Of one TOKEN the least; 4 and 5 of a TOKEN that can stand there.)". */
    private static void ofOneTokenTheLeast() {
        wrong(1, "tempo 99 @12345");
        wrong(1, VOICE + "back{".repeat(7) + "back @#{");
        wrong(2, VOICE + "back{".repeat(7) + "@{");
        wrong(2, VOICE + "back{".repeat(6) + "[@[");
        wrong(2, "let m={}@m");
        wrong(2, "key 1 @8");
        wrong(2, "voice v @9 bass");
        wrong(2, "let m={}let @key={}");
    }

    /** "Without them: key 0 major, time 4 / 4, tempo 120". */
    private static void withoutThem() {
        String[] heads = {"", "key -2 minor ", "time 3/8 ", "tempo 77 "};
        int[][] want = {{0, 0, 4, 4, 120}, {-2, 1, 4, 4, 120}, {0, 0, 3, 8, 120}, {0, 0, 4, 4, 77}};
        for (int n = 0; n < heads.length; n++) {
            StaveHouse house = CHECKS.house(heads[n] + VOICE + "c4}");
            for (int what = 2; what <= 6; what++) {
                CHECKS.due("look " + what + " of " + heads[n], house.look(0, what), want[n][what - 2]);
            }
        }
        // those of a text that was read before count no more
        StaveHouse again = CHECKS.house("key 3 minor time 2/2 tempo 50 " + VOICE + "c4}");
        for (int times = 0; times < 3; times++) {
            CHECKS.readAt(again, 0, VOICE + "c4}");
            for (int what = 2; what <= 6; what++) {
                CHECKS.due("look " + what + " again", again.look(0, what), want[0][what - 2]);
            }
        }
    }

    /** "The TAPE has at most 3000 bytes": texts that fill it. */
    private static void fullTape() {
        String bars = "voice v treble 0{" + "|".repeat(3000 - 17 - 3);
        dueRead(bars + "c4}", 0);
        dueRead(bars + "|||", 2 + 16 * 3000);
        dueRead(bars + "c4A", 1 + 16 * 2999);
        dueRead("}".repeat(3000), 2);
        dueRead(bars + "c4]", 2 + 16 * 2999);
        dueRead(" ".repeat(2979) + "voice v treble 0 {c4}", 0);
        dueRead(" ".repeat(2979) + "voice v treble 0 {c9}", 1 + 16 * (2979 + 18));
        String pitches = "voice v treble 0{" + "c4 ".repeat(200);
        dueRead(pitches + " ".repeat(3000 - pitches.length() - 1) + "}", 0);
        dueRead(pitches + " ".repeat(3000 - pitches.length() - 3) + "c4}", 8 + 16 * 2997);
    }
}
