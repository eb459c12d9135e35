import java.lang.management.ManagementFactory;
import java.util.Random;

/** No call throws, whatever is asked in whatever state; the same calls give the same answers; a run keeps to its room. */
public final class SteadyTest {
    private static final Checks CHECKS = new Checks();
    private static final int CALLS = 512;
    /** Two calls for each twenty bytes of a text, and two more. */
    private static final int DEAREST = 2 * 2500 / 20 + 2;
    private static int calls;
    private static final String[] WORDS = {"key", "major", "minor", "time", "tempo", "let", "voice", "treble", "bass", "alto", "tenor", "repeat",
        "alt", "use", "move", "mirror", "back", "slow", "r", "ppp", "f", "m", "n", "c4", "d4", "e#4", "bb3", "g8", "a0", "1", "2", "3", "4", "8",
        "16", "120", "{", "}", "[", "]", "<", ">", "(", ")", ":", "/", ".", "|", "~", "!", "'", "^", "-", "%", "=", "{", "}", "c4", "d4", "r"};
    private static final String[] ITEMS = {"c4 ", "d4:8 ", "e4:2. ", "r:4 ", "<c4 e4 g4>:4 ", "f#4:16% ", "g4' ", "a4^- ", "! p ", "! ff ", "use m ",
        "b4:8( c5) ", "c4~ c4 ", "d#4:32 "};
    private static final String[] OPENERS = {"repeat 2{", "repeat 4{", "back{", "move c4 e4{", "mirror d4{", "slow 2/1{", "slow 1/2{", "[3/2:"};

    public static void main(String[] args) {
        Random random = new Random(20240229);
        for (int run = 0; run < 400; run++) {
            oneRun(random.nextLong());
        }
        deepest();
        room();
        CHECKS.finish();
    }

    private static void oneRun(long seed) {
        StaveHouse one = new StaveHouse();
        StaveHouse other = new StaveHouse();
        Random forOne = new Random(seed);
        Random forOther = new Random(seed);
        calls = 0;
        while (calls <= CALLS - DEAREST) {
            int before = calls;
            long got = call(one, forOne);
            int made = calls - before;
            CHECKS.due("the same call again, run " + seed, call(other, forOther), got);
            calls = before + made;
        }
    }

    /** Puts a text or a file upon the tape, and counts the calls. */
    private static void put(StaveHouse house, byte[] bytes) {
        calls += 2 * ((bytes.length + 19) / 20);
        Checks.put(house, bytes);
    }

    private static int number(Random random) {
        switch (random.nextInt(8)) {
            case 0: return random.nextInt();
            case 1: return random.nextBoolean() ? Integer.MIN_VALUE : Integer.MAX_VALUE;
            case 2: return random.nextInt(1000);
            default: return random.nextInt(9) - 1;
        }
    }

    private static int place(Random random) {
        return random.nextInt(10) == 0 ? number(random) : random.nextInt(2);
    }

    private static long call(StaveHouse house, Random random) {
        calls++;
        int h = place(random);
        int v = random.nextInt(6) == 0 ? number(random) : random.nextInt(2);
        int what = random.nextInt(6) == 0 ? number(random) : random.nextInt(14);
        switch (random.nextInt(30)) {
            case 0: return tellText(house, random);
            case 1: return tellText(house, random);
            case 2: return house.read(h);
            case 3: return house.look(h, what);
            case 4: return house.voice(h, v, what);
            case 5: return house.name(h, v);
            case 6: return house.event(h, v, number(random), what);
            case 7: return house.pitch(h, v, number(random), number(random), what);
            case 8: return house.note(h, v, number(random), what);
            case 9: return house.lines(h, random.nextInt(4) == 0 ? number(random) : 200 + random.nextInt(1800));
            case 10: return house.line(h, number(random), what);
            case 11: return house.x(h, v, number(random));
            case 12: return house.perform(h);
            case 13: return house.stroke(h, number(random), what);
            case 14: return house.file(h);
            case 15: return house.out(number(random));
            case 16: return house.again();
            case 17: return house.open();
            case 18: return house.track(what);
            case 19: return house.sound(number(random), what);
            case 20: return house.down(random.nextInt(3) == 0 ? number(random) : 4 << random.nextInt(4));
            case 21: return house.play(h, random.nextInt(3) == 0 ? number(random) : random.nextInt(40));
            case 22: return house.sample(h, number(random), what);
            case 23: return house.moment(h, number(random), what);
            case 24: return house.fault(h, number(random), what);
            case 25: return house.follows(h, v, place(random), what);
            case 26: return house.shape(h, v, number(random), number(random), place(random), v, number(random), number(random));
            case 27: return tellFile(house, random);
            case 28: return house.end(number(random));
            default: return tellMusic(house, random);
        }
    }

    private static long tellText(StaveHouse house, Random random) {
        StringBuilder text = new StringBuilder(random.nextBoolean() ? "let m={c4}voice v treble 0 {" : "");
        for (int n = random.nextInt(40); n > 0; n--) {
            text.append(WORDS[random.nextInt(WORDS.length)]).append(random.nextInt(20) == 0 ? "" : " ");
        }
        put(house, text.toString().getBytes());
        return house.read(place(random));
    }

    private static String music(Random random, int depth) {
        StringBuilder text = new StringBuilder();
        for (int n = 1 + random.nextInt(5); n > 0; n--) {
            int opener = random.nextInt(3 * OPENERS.length);
            if (depth < 6 && opener < OPENERS.length) {
                text.append(OPENERS[opener]).append(music(random, depth + 1)).append(OPENERS[opener].startsWith("[") ? "]" : "}");
            } else {
                text.append(ITEMS[random.nextInt(ITEMS.length)]);
            }
        }
        return text.toString();
    }

    private static long tellMusic(StaveHouse house, Random random) {
        String music = music(random, 0);
        String text = "let m={e4:8 r}time " + (1 + random.nextInt(12)) + "/" + (2 << random.nextInt(4)) + " voice v treble 0{" + music
            + "}voice w bass 3{" + music + "}";
        if (text.length() < 2500) {
            calls++;
            house.read(0);
            put(house, text.getBytes());
        }
        return house.read(random.nextInt(2));
    }

    private static long tellFile(StaveHouse house, Random random) {
        byte[] bytes = new byte[14 + random.nextInt(200)];
        byte[] head = Checks.bytes('M', 'T', 'h', 'd', 0, 0, 0, 6, 0, 1, 0, 1 + random.nextInt(2), 0, 96, 'M', 'T', 'r', 'k', 0, 0, 0, 80, 0, 144, 60, 1);
        for (int n = 0; n < bytes.length; n++) {
            int any = random.nextInt(6) == 0 ? random.nextInt() : random.nextInt(128);
            bytes[n] = (byte) (n < head.length && random.nextInt(300) != 0 ? head[n] : any);
        }
        calls++;
        house.open();
        put(house, bytes);
        return house.open();
    }

    /** A voice and six lets, eight openings each. */
    private static void deepest() {
        StringBuilder text = new StringBuilder();
        String inner = "c4:8 d4";
        for (String word : new String[] {"m", "n", "o", "q", "s", "t"}) {
            text.append("let ").append(word).append("={").append("mirror c4{".repeat(7)).append(inner).append("}".repeat(8));
            inner = "use " + word;
        }
        text.append("voice v treble 0{").append("back{".repeat(7)).append(inner).append("}".repeat(8));
        StaveHouse house = CHECKS.house(text.toString());
        CHECKS.due("events", house.voice(0, 0, 2), 2);
        CHECKS.due("turned and mirrored", house.pitch(0, 0, 0, 0, 0), 29);
        String repeats = "voice v treble 0{" + "repeat 4{".repeat(7) + "}".repeat(8);
        Checks.put(house, repeats);
        CHECKS.due("a great many items", house.read(0) % 16, 8);
    }

    /** What is made in a dear run is far less than the room has. */
    private static void room() {
        com.sun.management.ThreadMXBean threads = (com.sun.management.ThreadMXBean) ManagementFactory.getThreadMXBean();
        long id = Thread.currentThread().getId();
        String music = "{repeat 4{repeat 4{<c4 e4 g4>:8% d4 <c4 e4 g4 c5 e5 g5>:4 c4:16% d4'}}}";
        String text = "voice a treble 0" + music + "voice b bass 1" + music + "voice c alto 2" + music + "voice d tenor 3" + music;
        long before = threads.getThreadAllocatedBytes(id);
        StaveHouse house = new StaveHouse();
        calls = 0;
        for (int h = 0; h < 2; h++) {
            Checks.put(house, text);
            calls += 2 * (text.length() / 20 + 1) + 1;
            CHECKS.due("read", house.read(h), 0);
        }
        for (; calls + 8 <= CALLS; calls += 8) {
            int h = calls % 2;
            house.lines(h, 200 + calls);
            house.perform(h);
            house.file(h);
            house.again();
            house.open();
            house.down(32);
            house.play(h, 1000);
            house.look(h, 8);
        }
        long made = threads.getThreadAllocatedBytes(id) - before;
        CHECKS.due("less than four million bytes (" + made + ")", made < 4000000 ? 1 : 0, 1);
    }
}
