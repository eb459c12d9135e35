/** Promises 1, 2, 3, 18: a new object, the bytes that wait, the tape. */
public final class TapeTest {
    private static final Checks CHECKS = new Checks();

    public static void main(String[] args) {
        newObject();
        bytesWait();
        tapeHasRoom();
        writtenComesAgain();
        CHECKS.finish();
    }

    private static void newObject() {
        StaveHouse house = new StaveHouse();
        CHECKS.due("NONE", StaveHouse.NONE, -1);
        CHECKS.due("end(0)", house.end(0), 0);
        CHECKS.due("look(0, 0)", house.look(0, 0), -1);
        CHECKS.due("look(1, 0)", house.look(1, 0), -1);
        CHECKS.due("out(0)", house.out(0), -1);
        CHECKS.due("again()", house.again(), -1);
        CHECKS.due("track(0)", house.track(0), Integer.MIN_VALUE);
        CHECKS.due("sound(0, 0)", house.sound(0, 0), -1);
        CHECKS.due("down(4)", house.down(4), -1);
        CHECKS.due("read(0) of nothing", house.read(0), 2);
        CHECKS.due("open() of nothing", house.open(), 2);
        CHECKS.due("twenty 0s wait", house.end(20), 20);
        CHECKS.due("0 is no token", house.read(0), 1);
        CHECKS.due("two 0s", house.end(2), 2);
        CHECKS.due("0 is no M", house.open(), 1);
    }

    private static void bytesWait() {
        StaveHouse house = new StaveHouse();
        // "voice v treble 0 {c4", the highest byte of each number first
        house.feed(0x766f6963, 0x65207620, 0x74726562, 0x6c652030, 0x207b6334);
        CHECKS.due("end(20)", house.end(20), 20);
        house.feed('}' << 24, 0, 0, 0, 0);
        CHECKS.due("end(1)", house.end(1), 21);
        CHECKS.due("read(0)", house.read(0), 0);
        CHECKS.due("name(0, 0)", house.name(0, 0), 'v');
        CHECKS.due("the tape is empty", house.end(0), 0);
        CHECKS.due("they wait still", house.end(1), 1);
        CHECKS.due("} can't stand there", house.read(1), 2);
        CHECKS.due("the piece stays", house.look(0, 0), 1);
        house.feed(-1, -1, -1, -1, -1);
        CHECKS.due("end(1) of 255", house.end(1), 1);
        CHECKS.due("255 is no token", house.read(1), 1);
        house.feed(0, 0, 0, 0, 'x');
        CHECKS.due("end(20), the last byte", house.end(20), 20);
        house.feed(0x20202020, 0x20202020, 0x20202020, 0x20202020, 0x20202078);
        house.read(0);
        CHECKS.due("end(20) of blanks and x", house.end(20), 20);
        CHECKS.due("x at 19", house.read(0), 2 + 16 * 19);
    }

    private static void tapeHasRoom() {
        StaveHouse house = new StaveHouse();
        CHECKS.due("end(-1)", house.end(-1), -1);
        CHECKS.due("end(21)", house.end(21), -1);
        CHECKS.due("end(MIN)", house.end(Integer.MIN_VALUE), -1);
        CHECKS.due("end(MAX)", house.end(Integer.MAX_VALUE), -1);
        house.feed(0x20202020, 0x20202020, 0x20202020, 0x20202020, 0x20202020);
        for (int n = 1; n <= 149; n++) {
            CHECKS.due("end(20), " + n, house.end(20), 20 * n);
        }
        CHECKS.due("end(19)", house.end(19), 2999);
        CHECKS.due("end(2) beyond 3000", house.end(2), -1);
        CHECKS.due("nothing came", house.end(0), 2999);
        CHECKS.due("end(1)", house.end(1), 3000);
        CHECKS.due("end(1) beyond 3000", house.end(1), -1);
        CHECKS.due("end(0) at 3000", house.end(0), 3000);
        CHECKS.due("read(2)", house.read(2), -1);
        CHECKS.due("read(-1)", house.read(-1), -1);
        CHECKS.due("the tape stays", house.end(0), 3000);
        CHECKS.due("the end is wrong", house.read(1), 2 + 16 * 3000);
        CHECKS.due("the tape is empty", house.end(0), 0);
    }

    private static void writtenComesAgain() {
        StaveHouse house = CHECKS.house("voice v treble 0 {c4}");
        CHECKS.due("file ahead of perform", house.file(0), -1);
        house.perform(0);
        int size = house.file(0);
        Checks.put(house, "what it had");
        CHECKS.due("again()", house.again(), size);
        CHECKS.due("in the stead of what it had", house.end(0), size);
        CHECKS.due("open()", house.open(), 0);
        CHECKS.due("what was written stays", house.out(0), 'M');
        // 1024 trilled sounds are more bytes than a tape has
        StaveHouse loud = CHECKS.house("voice v treble 0 {repeat 4{repeat 4{c4:1% c4:1%}}}");
        CHECKS.due("perform(0)", loud.perform(0), 1024);
        int large = loud.file(0);
        CHECKS.due("a large file", large > 3000 ? 1 : 0, 1);
        Checks.put(loud, "stays");
        CHECKS.due("again() of too much", loud.again(), -1);
        CHECKS.due("the tape stays", loud.end(0), 5);
        // 488 sounds: six bytes each, and what stands around them
        String just = " treble 0 {" + "c4:1% ".repeat(15) + "c4:4%}";
        StaveHouse full = CHECKS.house("voice abcde" + just);
        CHECKS.due("perform(0)", full.perform(0), 488);
        CHECKS.due("a file as large as the tape", full.file(0), 3000);
        CHECKS.due("comes again", full.again(), 3000);
        StaveHouse more = CHECKS.house("voice abcdef" + just);
        more.perform(0);
        CHECKS.due("a file of one byte more", more.file(0), 3001);
        CHECKS.due("doesn't", more.again(), -1);
        CHECKS.due("out(last)", loud.out(large - 1), 0);
        CHECKS.due("out(size)", loud.out(large), -1);
        CHECKS.due("out(-1)", loud.out(-1), -1);
    }
}
