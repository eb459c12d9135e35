import java.util.ArrayList;
import java.util.Arrays;
import java.util.List;
import java.util.Random;

/** What is OPENED of Part VI, and promises 19 to 21, sentence by sentence. */
public final class BoundsOfFilesTest {
    private static final Checks CHECKS = new Checks();
    private static final int AT = 22;

    public static void main(String[] args) {
        sizesOfHeads();
        tracksAndDivisions();
        formats();
        endOfTape();
        sizesOfTracks();
        otherChunks();
        behindTheLastTrack();
        deltas();
        statuses();
        dataBytes();
        runningStatus();
        metas();
        exclusives();
        endOfTrack();
        firstThatBeganEnds();
        mostSounds();
        times();
        otherSorts();
        keys();
        tempos();
        numbers();
        asPartOneHasThem();
        fullTape();
        changedBytes();
        asked();
        CHECKS.finish();
    }

    private static byte[] head(int size, int format, int tracks, int division) {
        return Checks.bytes('M', 'T', 'h', 'd', size >> 24, size >> 16, size >> 8, size, format >> 8, format, tracks >> 8, tracks, division >> 8, division);
    }

    private static byte[] chunk(String sort, int size, int... bytes) {
        byte[] row = Checks.join(Checks.bytes(0, 0, 0, 0, size >> 24, size >> 16, size >> 8, size), Checks.bytes(bytes));
        for (int n = 0; n < 4; n++) {
            row[n] = (byte) sort.charAt(n);
        }
        return row;
    }

    private static byte[] track(int... bytes) {
        return chunk("MTrk", bytes.length, bytes);
    }

    private static StaveHouse due(int want, byte[]... rows) {
        StaveHouse house = new StaveHouse();
        byte[] file = Checks.join(rows);
        Checks.put(house, file);
        CHECKS.due("open() of " + Arrays.toString(file.length > 200 ? Arrays.copyOf(file, 60) : file), house.open(), want);
        CHECKS.due("the tape is empty", house.end(0), 0);
        CHECKS.due("it is open", house.track(0) == Integer.MIN_VALUE ? 0 : 1, want == 0 ? 1 : 0);
        return house;
    }

    private static StaveHouse right(byte[]... rows) {
        return due(0, rows);
    }

    private static void wrong(int fault, int place, byte[]... rows) {
        due(fault + 16 * place, rows);
    }

    /** Of one track, a fault at a byte of it; below 0: it is right. */
    private static StaveHouse dueTrack(int fault, int at, int... bytes) {
        return due(at < 0 ? 0 : fault + 16 * (AT + at), head(6, 1, 1, 96), track(bytes));
    }

    private static void dueSound(StaveHouse house, int i, long... want) {
        long[] row = new long[6];
        for (int what = 0; what < 6; what++) {
            row[what] = house.sound(i, what);
        }
        CHECKS.dueRow("sound " + i, row, want);
    }

    /** "a size of four bytes (6 or more: 3; what is beyond six is passed over)". */
    private static void sizesOfHeads() {
        for (int size = 0; size < 6; size++) {
            wrong(3, 4, head(size, 1, 1, 96), track());
        }
        for (int more = 0; more < 5; more++) {
            right(head(6 + more, 1, 1, 96), new byte[more], track());
            byte[] passed = new byte[more];
            Arrays.fill(passed, (byte) 255);
            right(head(6 + more, 1, 1, 96), passed, track());
            if (more > 0) {
                wrong(2, 14 + more - 1, head(6 + more, 1, 1, 96), new byte[more - 1]);
            }
        }
        wrong(2, 100, head(0x01000006, 1, 1, 96), new byte[86]);
        wrong(2, 100, head(-1, 1, 1, 96), new byte[86]);
        wrong(2, 100, head(Integer.MAX_VALUE, 1, 1, 96), new byte[86]);
        // what is wrong within the six comes first
        wrong(1, 9, head(-1, 2, 1, 96));
        wrong(3, 12, head(-1, 1, 1, 0));
    }

    /** "TRACKS of two bytes (1 .. 8: 3), DIVISION of two (1 .. 960: 3)". */
    private static void tracksAndDivisions() {
        for (int tracks : new int[] {0, 1, 2, 7, 8, 9, 10, 255, 256, 257, 264, 65535}) {
            byte[][] rows = new byte[10][];
            Arrays.fill(rows, track());
            rows[0] = head(6, 1, tracks, 96);
            if (tracks >= 1 && tracks <= 8) {
                CHECKS.due("tracks", right(rows).track(0), tracks);
            } else {
                wrong(3, 10, rows);
            }
        }
        for (int division : new int[] {0, 1, 2, 95, 96, 255, 256, 480, 959, 960, 961, 962, 32767, 32768, 65535}) {
            if (division >= 1 && division <= 960) {
                CHECKS.due("division", right(head(6, 1, 1, division), track()).track(1), division);
            } else {
                wrong(3, 12, head(6, 1, 1, division), track());
            }
        }
        wrong(3, 10, head(6, 1, 0, 0), track());
    }

    /** "It begins M T h d"; "0 0 or 0 1 (1 at the byte)". */
    private static void formats() {
        right(head(6, 0, 1, 96), track());
        right(head(6, 1, 1, 96), track());
        wrong(1, 9, head(6, 2, 1, 96), track());
        wrong(1, 9, head(6, 255, 1, 96), track());
        wrong(1, 8, head(6, 256, 1, 96), track());
        wrong(1, 8, head(6, 257, 1, 96), track());
        for (int at = 0; at < 4; at++) {
            for (int step : new int[] {-1, 1, 32}) {
                byte[] file = Checks.join(head(6, 1, 1, 96), track());
                file[at] += step;
                wrong(1, at, file);
            }
        }
    }

    /** "2 the end, where one must be (place: the TAPE's length)". */
    private static void endOfTape() {
        byte[] file = Checks.join(head(8, 1, 2, 96), new byte[2], chunk("none", 3, 1, 2, 3), track(0, 144, 60, 1, 0x81, 0, 60, 0, 0, 255, 1, 2, 0, 0, 0, 240, 1, 0), track(0, 255, 47, 0));
        right(file);
        for (int size = 0; size < file.length; size++) {
            wrong(2, size, Arrays.copyOf(file, size));
        }
        right(file, new byte[5]);
    }

    /** "till its size is done (where a byte is wanted behind its size: 2 at the place behind it, or at the TAPE's length, if that is less)". */
    private static void sizesOfTracks() {
        int[] events = {0, 144, 60, 1, 5, 128, 60, 0};
        for (int size = 0; size <= 8; size++) {
            boolean whole = size % 4 == 0;
            byte[] file = Checks.join(head(6, 1, 1, 96), chunk("MTrk", size, events));
            if (whole) {
                StaveHouse house = right(file);
                CHECKS.due("sounds", house.track(7), size == 0 ? 0 : 1);
            } else {
                wrong(2, AT + size, file);
                wrong(2, AT + size, file, new byte[100]);
            }
        }
        // all of a chunk's bytes must be there
        for (int size : new int[] {9, 10, 100, 65536, Integer.MAX_VALUE, -1}) {
            wrong(2, AT + 8, head(6, 1, 1, 96), chunk("MTrk", size, events));
            wrong(2, AT + 12, head(6, 1, 1, 96), chunk("MTrk", size == 9 || size == 10 ? 13 : size, 0, 144, 60, 1, 5, 128, 60, 0, 0, 255, 47, 0));
            wrong(1, AT + 8 + 1, head(6, 1, 1, 96), chunk("MTrk", size == 9 || size == 10 ? 13 : size, 0, 144, 60, 1, 5, 128, 60, 0, 0, 241));
        }
    }

    /** "those that begin M T r k are TRACKS, others are passed over". */
    private static void otherChunks() {
        for (String sort : new String[] {"MTrj", "MTrl", "mTrk", "MtRK", "NTrk", "    ", "MThd"}) {
            StaveHouse house = right(head(6, 1, 1, 96), chunk(sort, 4, 241, 241, 241, 241), chunk(sort, 0), track(0, 144, 60, 1));
            CHECKS.due("its track", house.sound(0, 0), 0);
            wrong(2, AT + 3, head(6, 1, 1, 96), chunk(sort, 4, 1, 2, 3));
            wrong(2, AT + 3, head(6, 1, 1, 96), chunk(sort, -1, 1, 2, 3));
            wrong(2, AT + 3, head(6, 1, 1, 96), chunk(sort, 3, 1, 2, 3));
        }
        StaveHouse three = right(head(6, 1, 3, 96), track(), chunk("none", 1, 0), track(0, 144, 60, 1), chunk("none", 0), track(0, 144, 61, 1));
        CHECKS.due("tracks are counted without them", three.sound(0, 0), 1);
        CHECKS.due("tracks are counted without them", three.sound(1, 0), 2);
        byte[] many = new byte[8 * 360];
        for (int n = 0; n < 360; n++) {
            many[8 * n] = 'x';
        }
        right(head(6, 1, 1, 96), many, track(0, 255, 47, 0));
    }

    /** "behind the last TRACK that was told all else isn't looked at". */
    private static void behindTheLastTrack() {
        StaveHouse house = right(head(6, 1, 1, 96), track(0, 144, 60, 1), track(241));
        CHECKS.due("one sound", house.track(7), 1);
        right(head(6, 1, 1, 96), track(), Checks.bytes('M'));
        right(head(6, 1, 1, 96), track(), chunk("MTrk", 5));
        wrong(1, AT + 4 + 8 + 1, head(6, 1, 2, 96), track(0, 144, 60, 1), track(0, 241));
    }

    /** "DELTA (four bytes at most: 1 at the fourth, if that has 128)". */
    private static void deltas() {
        int[][] deltas = {{0}, {127}, {129, 0}, {255, 127}, {129, 128, 0}, {255, 255, 127}, {129, 128, 128, 0}, {255, 255, 255, 127}, {128, 0}, {128, 128, 128, 0}, {128, 128, 128, 127}};
        long[] ticks = {0, 127, 128, 16383, 16384, 2097151, 2097152, 268435455, 0, 0, 127};
        for (int n = 0; n < deltas.length; n++) {
            int size = deltas[n].length;
            int[] bytes = Arrays.copyOf(deltas[n], size + 3);
            bytes[size] = 144;
            bytes[size + 1] = 60;
            bytes[size + 2] = 1;
            CHECKS.due("tick of " + Arrays.toString(deltas[n]), dueTrack(0, -1, bytes).sound(0, 4), ticks[n]);
            // the numbers of 255, 240 and 247 are like it
            for (int sort : new int[] {255, 240, 247}) {
                List<Integer> row = new ArrayList<>(sort == 255 ? List.of(0, 255, 1) : List.of(0, sort));
                for (int b : deltas[n]) {
                    row.add(b);
                }
                int at = row.size();
                for (int i = 0; i < Math.min(ticks[n], 200); i++) {
                    row.add(241);
                }
                int[] event = row.stream().mapToInt(i -> i).toArray();
                dueTrack(2, ticks[n] <= 200 ? -1 : event.length, event);
                CHECKS.due("its size", at <= event.length ? 1 : 0, 1);
            }
        }
        dueTrack(1, 3, 128, 128, 128, 128, 0, 255, 47, 0);
        dueTrack(1, 3, 255, 255, 255, 255, 127, 255, 47, 0);
        dueTrack(1, 3, 128, 128, 128, 128);
        dueTrack(2, 3, 128, 128, 128);
        dueTrack(1, 6, 0, 255, 1, 128, 128, 128, 128, 0);
        dueTrack(1, 5, 0, 240, 128, 128, 128, 128, 0);
        dueTrack(1, 5, 0, 247, 128, 128, 128, 255, 0);
    }

    /** "128 .. 239: a status, then its bytes (of 192 .. 223 one, else two)"; "others 1". */
    private static void statuses() {
        for (int status = 128; status < 256; status++) {
            if (status >= 240) {
                boolean meant = status == 255 || status == 240 || status == 247;
                dueTrack(1, meant ? -1 : 1, status == 255 ? new int[] {0, 255, 1, 0} : new int[] {0, status, 0});
                continue;
            }
            int size = status >= 192 && status <= 223 ? 1 : 2;
            int[] bytes = {0, status, 127, 127, 0};
            for (int n = 0; n < size; n++) {
                dueTrack(2, 2 + n, Arrays.copyOf(bytes, 2 + n));
            }
            dueTrack(0, -1, Arrays.copyOf(bytes, 2 + size));
            // one byte more is a delta, behind which an event is wanted
            dueTrack(2, 3 + size, Arrays.copyOf(bytes, 3 + size));
            // and the status goes on
            int[] twice = size == 1 ? new int[] {0, status, 1, 0, 1} : new int[] {0, status, 1, 1, 0, 1, 1};
            dueTrack(0, -1, twice);
        }
    }

    /** "each below 128 (else 1)". */
    private static void dataBytes() {
        for (int b : new int[] {0, 1, 126, 127, 128, 129, 144, 255}) {
            for (int status : new int[] {128, 144, 160, 176, 224, 239}) {
                dueTrack(1, b < 128 ? -1 : 2, 0, status, b, 0);
                dueTrack(1, b < 128 ? -1 : 3, 0, status, 0, b);
            }
            dueTrack(1, b < 128 ? -1 : 2, 0, 192, b);
            dueTrack(1, b < 128 ? -1 : 2, 0, 223, b);
            dueTrack(1, b < 128 ? -1 : 6, 0, 144, 0, 0, 0, 0, b);
        }
    }

    /** "below 128: the first byte of the status that was latest in this TRACK (1 if there is none; 255 and 240, 247 end it)". */
    private static void runningStatus() {
        for (int b : new int[] {0, 1, 60, 126, 127}) {
            dueTrack(1, 1, 0, b, 0);
            dueTrack(0, -1, 0, 144, 1, 1, 0, b, 0);
            dueTrack(1, 7, 0, 192, 1, 0, 240, 0, 0, b, 0);
        }
        dueTrack(1, 8, 0, 144, 1, 1, 0, 247, 0, 0, 60, 0);
        wrong(1, AT + 4 + 8 + 1, head(6, 1, 2, 96), track(0, 144, 60, 1), track(0, 60, 1));
        StaveHouse latest = dueTrack(0, -1, 0, 144, 60, 1, 0, 145, 60, 2, 0, 61, 3, 0, 176, 0, 0, 0, 1, 1, 0, 146, 62, 4, 0, 63, 5);
        CHECKS.due("sounds", latest.track(7), 5);
        dueSound(latest, 2, 0, 1, 61, 3, 0, 0);
        dueSound(latest, 4, 0, 2, 63, 5, 0, 0);
    }

    /** "255, a byte below 128 (1), a number like a DELTA, so many bytes". */
    private static void metas() {
        for (int sort = 0; sort < 256; sort++) {
            dueTrack(1, sort < 128 ? -1 : 2, 0, 255, sort, 0);
        }
        dueTrack(2, 2, 0, 255);
        dueTrack(2, 3, 0, 255, 1);
        dueTrack(2, 4, 0, 255, 1, 1);
        dueTrack(0, -1, 0, 255, 1, 1, 255);
        dueTrack(2, 5, 0, 255, 1, 2, 255);
    }

    /** "240, 247: such a number, so many bytes". */
    private static void exclusives() {
        for (int status : new int[] {240, 247}) {
            dueTrack(2, 2, 0, status);
            dueTrack(0, -1, 0, status, 0);
            dueTrack(2, 3, 0, status, 1);
            dueTrack(0, -1, 0, status, 1, 255);
            dueTrack(0, -1, 0, status, 2, 255, 47, 0, 255, 47, 0);
            dueTrack(2, 4, 0, status, 2, 255);
        }
    }

    /** "255 47: what is left of the TRACK behind its number and bytes isn't looked at"; "at the TRACK's end (the TICK of its last EVENT ..)". */
    private static void endOfTrack() {
        dueTrack(0, -1, 0, 255, 47, 0, 241, 241);
        dueTrack(0, -1, 0, 255, 47, 2, 241, 241, 241);
        dueTrack(2, 4, 0, 255, 47, 1);
        dueTrack(2, 5, 0, 255, 47, 2, 0);
        StaveHouse ended = dueTrack(0, -1, 1, 144, 60, 1, 5, 255, 47, 0, 9, 128, 60, 0);
        dueSound(ended, 0, 0, 0, 60, 1, 1, 6);
        dueSound(dueTrack(0, -1, 1, 144, 60, 1, 5, 255, 1, 0), 0, 0, 0, 60, 1, 1, 6);
        dueSound(dueTrack(0, -1, 1, 144, 60, 1, 5, 240, 0, 7, 192, 0), 0, 0, 0, 60, 1, 1, 13);
        dueSound(dueTrack(0, -1, 1, 144, 60, 1), 0, 0, 0, 60, 1, 1, 1);
        // each track's ticks begin at 0, and its sounds end with it
        StaveHouse two = right(head(6, 1, 2, 96), track(9, 144, 60, 1), track(3, 144, 60, 1, 4, 128, 61, 0));
        dueSound(two, 0, 0, 0, 60, 1, 9, 9);
        dueSound(two, 1, 1, 0, 60, 1, 3, 7);
    }

    /** "the one of that TONE and CHANNEL (status mod 16) in this TRACK that began first and hasn't ended ends". */
    private static void firstThatBeganEnds() {
        StaveHouse house = dueTrack(0, -1, 0, 144, 60, 1, 1, 60, 2, 1, 60, 3, 1, 60, 0, 1, 128, 60, 64, 1, 128, 60, 0, 1, 128, 60, 0, 1, 255, 47, 0);
        dueSound(house, 0, 0, 0, 60, 1, 0, 3);
        dueSound(house, 1, 0, 0, 60, 2, 1, 4);
        dueSound(house, 2, 0, 0, 60, 3, 2, 5);
        StaveHouse channels = dueTrack(0, -1, 0, 144, 60, 1, 0, 159, 60, 127, 2, 143, 60, 0, 2, 128, 61, 0, 2, 144, 60, 0);
        dueSound(channels, 0, 0, 0, 60, 1, 0, 6);
        dueSound(channels, 1, 0, 15, 60, 127, 0, 2);
        StaveHouse tracks = right(head(6, 1, 2, 96), track(0, 144, 60, 1, 8, 255, 1, 0), track(1, 128, 60, 0, 1, 144, 60, 1));
        dueSound(tracks, 0, 0, 0, 60, 1, 0, 8);
        dueSound(tracks, 1, 1, 0, 60, 1, 2, 2);
        // a sound of no ticks, and one that begins as another one ends
        StaveHouse none = dueTrack(0, -1, 5, 144, 60, 1, 0, 60, 0, 0, 60, 2, 5, 60, 0);
        dueSound(none, 0, 0, 0, 60, 1, 5, 5);
        dueSound(none, 1, 0, 0, 60, 2, 5, 10);
        // other statuses begin and end none
        StaveHouse others = dueTrack(0, -1, 0, 144, 60, 1, 3, 160, 60, 0, 3, 176, 60, 0, 3, 224, 60, 0, 3, 192, 60, 3, 208, 60);
        dueSound(others, 0, 0, 0, 60, 1, 0, 15);
        CHECKS.due("one", others.track(7), 1);
    }

    private static int[] manySounds(int count) {
        int[] bytes = new int[4 + 3 * (count - 1)];
        bytes[1] = 144;
        bytes[3] = 1;
        for (int n = 1; n < count; n++) {
            bytes[3 * n + 2] = n % 128;
            bytes[3 * n + 3] = 1;
        }
        return bytes;
    }

    /** "More than 400 SOUNDS: 3 at the status or byte (where that EVENT begins behind its DELTA)". */
    private static void mostSounds() {
        CHECKS.due("399", dueTrack(0, -1, manySounds(399)).track(7), 399);
        StaveHouse most = dueTrack(0, -1, manySounds(400));
        CHECKS.due("400", most.track(7), 400);
        dueSound(most, 399, 0, 0, 15, 1, 0, 0);
        CHECKS.due("none more", most.sound(400, 0), -1);
        int[] more = manySounds(401);
        dueTrack(3, more.length - 2, more);
        dueTrack(3, 3 * 400 + 2, manySounds(500));
        int[] ended = Arrays.copyOf(manySounds(400), 4 + 3 * 399 + 7);
        int at = 4 + 3 * 399;
        int[] tail = {0, 5, 0, 0, 144, 6, 1};
        System.arraycopy(tail, 0, ended, at, 7);
        dueTrack(3, at + 4, ended);
        // in two tracks together; a delta of two bytes
        wrong(3, AT + 4 + 3 * 399 + 8 + 2, head(6, 1, 2, 96), track(manySounds(400)), track(129, 0, 144, 60, 1));
        wrong(1, AT + 4 + 3 * 399 + 8 + 4, head(6, 1, 2, 96), track(manySounds(400)), track(129, 0, 144, 60, 129));
        right(head(6, 1, 2, 96), track(manySounds(400)), track(0, 144, 60, 0, 0, 128, 60, 5));
        wrong(3, AT + 4 + 3 * 199 + 8 + 4 + 3 * 199 + 1, head(6, 1, 2, 96), track(manySounds(200)), track(manySounds(201)));
    }

    /** "The first 255 88 with four bytes or more, of which the first is 1 .. 12, the second 1 .. 4, tells the time". */
    private static void times() {
        for (int n = 0; n <= 14; n++) {
            for (int d = 0; d <= 6; d++) {
                StaveHouse house = dueTrack(0, -1, 0, 255, 88, 4, n, d, 24, 8);
                boolean told = n >= 1 && n <= 12 && d >= 1 && d <= 4;
                CHECKS.due("n of " + n + ", " + d, house.track(4), told ? n : 4);
                CHECKS.due("d of " + n + ", " + d, house.track(5), told ? 1 << d : 4);
            }
        }
        for (int size = 0; size <= 6; size++) {
            int[] bytes = new int[4 + size];
            int[] told = {0, 255, 88, size, 3, 3, 0, 0, 0, 0};
            System.arraycopy(told, 0, bytes, 0, bytes.length);
            CHECKS.due("n of " + size + " bytes", dueTrack(0, -1, bytes).track(4), size >= 4 ? 3 : 4);
        }
        CHECKS.due("255", dueTrack(0, -1, 0, 255, 88, 4, 255, 2, 0, 0).track(4), 4);
        CHECKS.due("255", dueTrack(0, -1, 0, 255, 88, 4, 3, 255, 0, 0).track(4), 4);
        CHECKS.due("the first one", dueTrack(0, -1, 0, 255, 88, 4, 3, 3, 0, 0, 0, 255, 88, 4, 5, 3, 0, 0).track(4), 3);
        CHECKS.due("the first one that is so", dueTrack(0, -1, 0, 255, 88, 4, 13, 3, 0, 0, 0, 255, 88, 4, 5, 3, 0, 0).track(4), 5);
    }

    /** What no other sort of 255 tells. */
    private static void otherSorts() {
        for (int sort = 0; sort < 128; sort++) {
            StaveHouse house = dueTrack(0, -1, 0, 255, sort, 4, 3, 1, 0, 0);
            CHECKS.due("n told by " + sort, house.track(4), sort == 88 ? 3 : 4);
            CHECKS.due("d told by " + sort, house.track(5), sort == 88 ? 2 : 4);
            CHECKS.due("fifths told by " + sort, house.track(2), sort == 89 ? 3 : 0);
            CHECKS.due("minor told by " + sort, house.track(3), sort == 89 ? 1 : 0);
            CHECKS.due("tempo told by " + sort, dueTrack(0, -1, 0, 255, sort, 3, 15, 66, 64).track(6), sort == 81 ? 60 : 120);
        }
    }

    /** "the first 255 89 with two or more, -7 .. 7 and 0 or 1, the KEY". */
    private static void keys() {
        for (int fifths = -128; fifths < 128; fifths++) {
            for (int minor : new int[] {0, 1, 2, 255}) {
                StaveHouse house = dueTrack(0, -1, 0, 255, 89, 2, fifths & 255, minor);
                boolean told = Math.abs(fifths) <= 7 && minor <= 1;
                CHECKS.due("fifths of " + fifths + ", " + minor, house.track(2), told ? fifths : 0);
                CHECKS.due("minor of " + fifths + ", " + minor, house.track(3), told ? minor : 0);
            }
        }
        CHECKS.due("one byte", dueTrack(0, -1, 0, 255, 89, 1, 3).track(2), 0);
        CHECKS.due("three bytes", dueTrack(0, -1, 0, 255, 89, 3, 3, 1, 9).track(2), 3);
        CHECKS.due("the first one", dueTrack(0, -1, 0, 255, 89, 2, 0, 0, 0, 255, 89, 2, 3, 1).track(2), 0);
        CHECKS.due("the first one that is so", dueTrack(0, -1, 0, 255, 89, 2, 8, 0, 0, 255, 89, 2, 3, 1).track(2), 3);
    }

    /** "the first 255 81 with three tells the tempo: 60,000,000 by that number, 20 at least, 300 at most (of 0: 300)". */
    private static void tempos() {
        for (int number : new int[] {0, 1, 2, 1000, 199999, 200000, 200001, 200667, 200668, 200669, 499999, 500000, 500001, 2857142, 2857143, 2999999, 3000000, 3000001, 3157894, 3157895,
            16777215, 65535, 65536, 327680, 327681, 600000, 600001, 397350, 397351, 397352}) {
            int tempo = number == 0 ? 300 : Math.max(20, Math.min(300, 60000000 / number));
            CHECKS.due("tempo of " + number, dueTrack(0, -1, 0, 255, 81, 3, number >> 16, number >> 8 & 255, number & 255).track(6), tempo);
        }
        CHECKS.due("two bytes", dueTrack(0, -1, 0, 255, 81, 2, 15, 66).track(6), 120);
        CHECKS.due("the first one", dueTrack(0, -1, 0, 255, 81, 3, 15, 66, 64, 0, 255, 81, 3, 3, 13, 64).track(6), 60);
        CHECKS.due("the first one, of 0", dueTrack(0, -1, 0, 255, 81, 3, 0, 0, 0, 0, 255, 81, 3, 15, 66, 64).track(6), 300);
        CHECKS.due("the first one with three", dueTrack(0, -1, 0, 255, 81, 0, 0, 255, 81, 3, 15, 66, 64).track(6), 60);
        CHECKS.due("in a later track", right(head(6, 1, 2, 96), track(), track(9, 255, 81, 3, 15, 66, 64)).track(6), 60);
    }

    /** "The first 192 .. 207 of a TRACK its NUMBER (mod 4)". */
    private static void numbers() {
        for (int number : new int[] {0, 1, 2, 3, 4, 5, 63, 64, 126, 127}) {
            for (int status : new int[] {191, 192, 200, 207, 208}) {
                int[] bytes = status == 191 ? new int[] {0, 191, number, 0, 0, 144, 60, 1} : new int[] {0, status, number, 0, 144, 60, 1};
                StaveHouse house = dueTrack(0, -1, bytes);
                house.down(4);
                boolean told = status >= 192 && status <= 207;
                CHECKS.due("number of " + status + ", " + number, house.out(31 + 16), '0' + (told ? number % 4 : 0));
            }
        }
        StaveHouse first = dueTrack(0, -1, 0, 144, 60, 1, 0, 193, 2, 0, 192, 3);
        first.down(4);
        CHECKS.due("the first one, behind a sound, too", first.out(31 + 16), '2');
        StaveHouse none = right(head(6, 1, 2, 96), track(0, 192, 3), track(0, 144, 60, 1));
        none.down(4);
        CHECKS.due("of the other track it is none", none.out(31 + 16), '0');
    }

    /** "(KEY, time and tempo as Part I has them, where it tells none)", also where a file ahead of it told them. */
    private static void asPartOneHasThem() {
        StaveHouse house = new StaveHouse();
        byte[] telling = Checks.join(head(6, 1, 1, 480), track(0, 255, 88, 4, 3, 3, 0, 0, 0, 255, 89, 2, 255, 1, 0, 255, 81, 3, 15, 66, 64, 0, 192, 3, 0, 144, 60, 1));
        byte[] bare = Checks.join(head(6, 1, 2, 7), track(), track(0, 144, 60, 1, 1, 144, 61, 2));
        byte[] empty = Checks.join(head(6, 0, 1, 8), track());
        for (int n = 0; n < 3; n++) {
            dueTold(house, telling, 1, 480, -1, 1, 3, 8, 60, 1);
            CHECKS.due("nothing is left of sounds", house.sound(1, 0), -1);
            dueTold(house, bare, 2, 7, 0, 0, 4, 4, 120, 2);
            dueTold(house, empty, 1, 8, 0, 0, 4, 4, 120, 0);
            CHECKS.due("nothing is left of sounds", house.sound(0, 0), -1);
            dueTold(house, empty, 1, 8, 0, 0, 4, 4, 120, 0);
        }
        dueTold(house, telling, 1, 480, -1, 1, 3, 8, 60, 1);
        dueTold(house, telling, 1, 480, -1, 1, 3, 8, 60, 1);
        dueTold(house, bare, 2, 7, 0, 0, 4, 4, 120, 2);
        dueTold(house, bare, 2, 7, 0, 0, 4, 4, 120, 2);
        house.down(4);
        CHECKS.due("nothing is left of numbers", house.out(31 + 16), '0');
    }

    private static void dueTold(StaveHouse house, byte[] file, long... want) {
        Checks.put(house, file);
        CHECKS.due("open()", house.open(), 0);
        long[] row = new long[8];
        for (int what = 0; what < 8; what++) {
            row[what] = house.track(what);
        }
        CHECKS.dueRow("told", row, want);
    }

    /** Files of 3000 bytes. */
    private static void fullTape() {
        // 0 192 0, then 1 0 each: a delta and the byte of the status that goes on
        int[] running = new int[3000 - AT];
        running[1] = 192;
        for (int n = 3; n < running.length - 1; n += 2) {
            running[n] = 1;
        }
        dueTrack(2, 3000 - AT, running);
        dueTrack(0, -1, Arrays.copyOf(running, 3000 - AT - 1));
        StaveHouse house = dueTrack(0, -1, Arrays.copyOf(running, 3000 - AT - 1));
        CHECKS.due("no sounds", house.track(7), 0);
        right(head(6, 1, 1, 96), track(0, 255, 47, 0), new byte[3000 - AT - 4]);
        wrong(2, 3000, head(6, 1, 1, 96), chunk("MTrk", 3000 - AT + 1, 0, 255, 47, 0), new byte[3000 - AT - 4]);
        right(head(6, 1, 1, 96), chunk("MTrk", 3000 - AT, 0, 255, 47, 0), new byte[3000 - AT - 4]);
    }

    /** Any byte changed: a fault is one of three, and stands on the tape. */
    private static void changedBytes() {
        byte[] file = Checks.join(head(6, 1, 2, 96), track(0, 255, 88, 4, 3, 3, 0, 0, 0, 144, 60, 1, 9, 60, 0), track(0, 192, 1, 0, 145, 60, 1, 0x81, 3, 62, 1, 0, 255, 47, 0));
        Random random = new Random(3);
        for (int at = 0; at < file.length; at++) {
            for (int n = 0; n < 4; n++) {
                byte[] changed = file.clone();
                changed[at] = (byte) random.nextInt();
                StaveHouse house = new StaveHouse();
                Checks.put(house, changed);
                int fault = house.open();
                CHECKS.due("a fault lies within the tape", fault == 0 || fault / 16 <= file.length && fault % 16 >= 1 && fault % 16 <= 3 ? 1 : 0, 1);
                CHECKS.due("with a fault it isn't open", house.track(0) == Integer.MIN_VALUE ? 0 : 1, fault == 0 ? 1 : 0);
            }
        }
    }

    /** "Integer.MIN_VALUE for others, or without a file"; "NONE for others, or if there is none such". */
    private static void asked() {
        StaveHouse none = new StaveHouse();
        for (int what = -1; what <= 9; what++) {
            CHECKS.due("track(" + what + ") without a file", none.track(what), Integer.MIN_VALUE);
            CHECKS.due("sound(0, " + what + ") without a file", none.sound(0, what), -1);
        }
        StaveHouse house = dueTrack(0, -1, 0, 144, 60, 1);
        for (int what : new int[] {Integer.MIN_VALUE, -1, 8, 9, Integer.MAX_VALUE}) {
            CHECKS.due("track(" + what + ")", house.track(what), Integer.MIN_VALUE);
            CHECKS.due("sound(" + what + ", 0)", house.sound(what, 0), -1);
        }
        for (int what : new int[] {Integer.MIN_VALUE, -1, 6, 7, Integer.MAX_VALUE}) {
            CHECKS.due("sound(0, " + what + ")", house.sound(0, what), -1);
        }
        CHECKS.due("sound(1, 0)", house.sound(1, 0), -1);
        StaveHouse great = dueTrack(0, -1, manyTicks());
        CHECKS.due("ticks are told as they are", great.sound(0, 4), 300L * 268435455);
        CHECKS.due("however great", great.sound(0, 5), 301L * 268435455);
    }

    private static int[] manyTicks() {
        int[] bytes = new int[300 * 7 + 7 - 2 + 3];
        int[] one = {255, 255, 255, 127, 255, 1, 0};
        for (int n = 0; n < 299; n++) {
            System.arraycopy(one, 0, bytes, 7 * n, 7);
        }
        int[] last = {255, 255, 255, 127, 144, 60, 1, 255, 255, 255, 127, 128, 61, 0};
        System.arraycopy(last, 0, bytes, 7 * 299, 14);
        return Arrays.copyOf(bytes, 7 * 299 + 14);
    }
}
