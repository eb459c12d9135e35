import java.util.ArrayList;
import java.util.Arrays;
import java.util.HashSet;
import java.util.List;
import java.util.Random;
import java.util.Set;

/** Part I, judged anew: texts into which tokens are put, and from which they are taken, at random. */
public final class TextsByRuleTest {
    private static final Checks CHECKS = new Checks();
    private static final Set<String> TOLD = Set.of("key", "major", "minor", "time", "tempo", "let", "voice", "treble", "bass", "alto", "tenor", "repeat", "alt", "use", "move", "mirror",
        "back", "slow", "r", "ppp", "pp", "p", "mp", "mf", "f", "ff", "fff");
    private static final List<String> LOUDS = List.of("ppp", "pp", "p", "mp", "mf", "f", "ff", "fff");
    private static final String[] VOCABULARY = {"key", "major", "minor", "time", "tempo", "let", "voice", "treble", "bass", "alto", "tenor", "repeat", "alt", "use", "move", "mirror", "back",
        "slow", "r", "ppp", "p", "mf", "f", "m", "n", "v", "w", "abcdefgh", "abcdefghi", "c4", "d#5", "bbb2", "c9", "h4", "c###4", "0", "1", "2", "3", "4", "5", "7", "8", "9", "10", "12", "13",
        "16", "19", "20", "32", "64", "300", "301", "0002", "12345", "{", "}", "[", "]", "<", ">", "(", ")", ":", "/", ".", "|", "~", "!", "'", "^", "-", "%", "=", "{", "}", ";", "A", "#", "\u00ff"};
    private static final String[] RIGHT = {
        "key - 3 minor time 6 / 8 tempo 99 let m = { c4 : 8 . ~ c4 } voice v alto 1 { use m < c4 e4 > : 4 repeat 2 { r } alt { ! p c4 } { d4 } [ 3 / 2 : c4 c4 c4 ] move c4 d4 { c4 } mirror c4"
            + " { c4 } back { c4 } slow 1 / 2 { c4 } | } voice w bass 0 { c4 ( ' d4 ) ^ - % }",
        "let m = { } let n = { use m } voice v treble 0 { c4 } voice w tenor 3 { ! fff r : 1 . . < c4 d4 e4 f4 g4 a4 > ~ ( ) ' ^ - % }",
        "voice v bass 2 { back { back { back { back { back { back { [ 9 / 9 : c4 ] } } } } } } }"};

    private static final int[] FAULTS = new int[16];
    private static StaveHouse house = new StaveHouse();
    private static int calls;

    public static void main(String[] args) {
        Random random = new Random(13);
        for (String text : RIGHT) {
            everyPlace(text);
        }
        for (int n = 0; n < 12000; n++) {
            dueFault(changed(random));
        }
        for (int fault = 0; fault <= 5; fault++) {
            CHECKS.due("some texts have the fault " + fault + " (" + FAULTS[fault] + ")", FAULTS[fault] >= 5 ? 1 : 0, 1);
        }
        CHECKS.finish();
    }

    /** At each place each token of the vocabulary: in the stead of what stood there, and ahead of it; and none. */
    private static void everyPlace(String text) {
        String[] tokens = text.split(" ");
        for (int at = 0; at < tokens.length; at++) {
            for (String word : VOCABULARY) {
                List<String> row = new ArrayList<>(Arrays.asList(tokens));
                row.set(at, word);
                dueFault(String.join(" ", row));
                row.add(at + 1, tokens[at]);
                dueFault(String.join(" ", row));
            }
            List<String> row = new ArrayList<>(Arrays.asList(tokens));
            row.remove(at);
            dueFault(String.join(" ", row));
        }
    }

    private static String changed(Random random) {
        List<String> tokens = new ArrayList<>(List.of(RIGHT[random.nextInt(RIGHT.length)].split(" ")));
        for (int n = 1 + random.nextInt(3); n > 0; n--) {
            int at = random.nextInt(tokens.size());
            String word = VOCABULARY[random.nextInt(VOCABULARY.length)];
            switch (random.nextInt(5)) {
                case 0: tokens.remove(at); break;
                case 1: tokens.set(at, word); break;
                case 2: tokens.add(at, word); break;
                case 3: tokens.add(at, tokens.get(random.nextInt(tokens.size()))); break;
                default: tokens.set(at, tokens.get(random.nextInt(tokens.size()))); break;
            }
        }
        StringBuilder text = new StringBuilder();
        for (String token : tokens) {
            text.append(token).append(random.nextInt(12) == 0 ? "" : random.nextInt(8) == 0 ? "\n \t" : " ");
        }
        return text.toString();
    }

    /** Many texts are read in one house, but in none more than 512 calls allow. */
    private static void dueFault(String text) {
        int want = new TextsByRuleTest(text).judge();
        FAULTS[want % 16]++;
        calls += 2 * ((text.length() + 19) / 20) + 1;
        if (calls > 512) {
            house = new StaveHouse();
            calls = 2 * ((text.length() + 19) / 20) + 1;
        }
        Checks.put(house, text);
        int got = house.read(0);
        // what is judged behind the text itself isn't asked here
        CHECKS.due("read of " + text, got % 16 > 5 ? 0 : got, want);
    }

    private static final class Fault extends RuntimeException {
        Fault() {
            super(null, null, false, false);
        }
    }

    private final List<String> tokens = new ArrayList<>();
    private final List<Integer> places = new ArrayList<>();
    private final Set<String> lets = new HashSet<>();
    private final Set<String> voices = new HashSet<>();
    private int at;
    private int open;
    private int told;

    private TextsByRuleTest(String text) {
        int from = 0;
        while (from < text.length()) {
            int to = from;
            while (to < text.length() && String.valueOf(text.charAt(to)).matches("[a-z0-9#]")) {
                to++;
            }
            to = Math.max(to, from + 1);
            String token = text.substring(from, to);
            if (!token.matches("[\\t\\n\\r ]")) {
                tokens.add(token);
                places.add(from);
            }
            from = to;
        }
        tokens.add("");
        places.add(text.length());
    }

    private int judge() {
        try {
            text();
        } catch (Fault fault) {
            return told;
        }
        return 0;
    }

    private Fault fault(int sort) {
        String token = tokens.get(at);
        boolean none = !token.isEmpty() && !isPitch() && !isNumber() && !token.matches("[a-z]{1,8}") && !token.matches("[{}\\[\\]<>():/.|~!'^\\-%=]");
        told = (none ? 1 : sort) + 16 * places.get(at);
        return new Fault();
    }

    private boolean is(String token) {
        return tokens.get(at).equals(token);
    }

    private boolean isPitch() {
        return tokens.get(at).matches("[a-g](##?|bb?)?[0-8]");
    }

    private boolean isNumber() {
        return tokens.get(at).matches("[0-9]{1,4}");
    }

    private void must(boolean right) {
        if (!right) {
            throw fault(2);
        }
        at++;
    }

    private void must(String token) {
        must(is(token));
    }

    private void number(int... allowed) {
        if (!isNumber()) {
            throw fault(2);
        }
        int number = Integer.parseInt(tokens.get(at));
        boolean fits = allowed.length == 2 ? number >= allowed[0] && number <= allowed[1] : Arrays.stream(allowed).anyMatch(n -> n == number);
        if (!fits) {
            throw fault(5);
        }
        at++;
    }

    private String name() {
        String token = tokens.get(at);
        if (!token.matches("[a-z]{1,8}") || TOLD.contains(token)) {
            throw fault(2);
        }
        return token;
    }

    private void text() {
        Set<String> heads = new HashSet<>();
        while (true) {
            String head = tokens.get(at);
            if (Set.of("key", "time", "tempo").contains(head) && heads.add(head)) {
                at++;
                head(head);
            } else if (is("let") && lets.size() < 6) {
                let();
            } else {
                break;
            }
        }
        do {
            voice();
        } while (is("voice") && voices.size() < 4);
        if (!is("")) {
            throw fault(2);
        }
    }

    private void head(String head) {
        if (head.equals("key")) {
            at += is("-") ? 1 : 0;
            number(0, 7);
            must(is("major") || is("minor"));
        } else if (head.equals("time")) {
            number(1, 12);
            must("/");
            number(2, 4, 8, 16);
        } else {
            number(20, 300);
        }
    }

    private void let() {
        at++;
        String name = name();
        if (lets.contains(name)) {
            throw fault(4);
        }
        at++;
        must("=");
        block();
        lets.add(name);
    }

    private void voice() {
        must("voice");
        if (!voices.add(name())) {
            throw fault(4);
        }
        at++;
        must(is("treble") || is("bass") || is("alto") || is("tenor"));
        number(0, 3);
        block();
    }

    private void open(String sign) {
        if (is(sign) && open == 8) {
            throw fault(3);
        }
        must(sign);
        open++;
    }

    private void block() {
        open("{");
        music();
        must("}");
        open--;
    }

    private void music() {
        while (item()) {
            continue;
        }
    }

    private boolean item() {
        if (isPitch()) {
            at++;
            length();
            marks();
            return true;
        }
        switch (tokens.get(at)) {
            case "<": chord(); break;
            case "r": at++; length(); break;
            case "|": at++; break;
            case "!": at++; must(LOUDS.contains(tokens.get(at))); break;
            case "[": bracket(); break;
            case "repeat": repeat(); break;
            case "use": use(); break;
            case "move": at++; must(isPitch()); must(isPitch()); block(); break;
            case "mirror": at++; must(isPitch()); block(); break;
            case "back": at++; block(); break;
            case "slow": at++; number(1, 8); must("/"); number(1, 8); block(); break;
            default: return false;
        }
        return true;
    }

    private void chord() {
        at++;
        must(isPitch());
        must(isPitch());
        for (int n = 2; n < 6 && isPitch(); n++) {
            at++;
        }
        must(">");
        length();
        marks();
    }

    private void length() {
        if (is(":")) {
            at++;
            number(1, 2, 4, 8, 16, 32);
            at += is(".") ? 1 : 0;
            at += is(".") && tokens.get(at - 1).equals(".") ? 1 : 0;
        }
    }

    private void marks() {
        Set<String> stood = new HashSet<>();
        while (tokens.get(at).matches("[~()'^\\-%]") && stood.add(tokens.get(at))) {
            at++;
        }
    }

    private void bracket() {
        open("[");
        number(2, 9);
        must("/");
        number(1, 9);
        must(":");
        music();
        must("]");
        open--;
    }

    private void repeat() {
        at++;
        number(2, 4);
        block();
        if (is("alt")) {
            at++;
            block();
            while (is("{")) {
                block();
            }
        }
    }

    private void use() {
        at++;
        if (!lets.contains(name())) {
            throw fault(4);
        }
        at++;
    }
}
