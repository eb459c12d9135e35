import java.nio.charset.StandardCharsets;

/** What all tests share: putting texts and bytes upon a tape, and telling which answers are not as due. */
public final class Checks {
    private int asked;
    private int wrong;

    public void due(String call, long got, long want) {
        asked++;
        if (got != want) {
            wrong++;
            System.out.println(call + " answered " + got + ", due is " + want);
        }
    }

    /** Answers to what = 0, 1, 2 .. in a row. */
    public void dueRow(String call, long[] got, long... want) {
        due(call + " (how many)", got.length, want.length);
        for (int i = 0; i < Math.min(got.length, want.length); i++) {
            due(call + " [" + i + "]", got[i], want[i]);
        }
    }

    /** Two rows of answers that must be the same. */
    public void dueSame(String call, long[] got, long[] want) {
        boolean same = java.util.Arrays.equals(got, want);
        due(call + " (the same)", same ? 1 : 0, 1);
        if (!same) {
            dueRow(call, got, want);
        }
    }

    public void dueText(String call, String got, String want) {
        asked++;
        if (!got.equals(want)) {
            wrong++;
            System.out.println(call + " gave\n" + got + "\ndue is\n" + want);
        }
    }

    /** Reads a text in which @ stands ahead of the token that is wrong; without @ it must be right. */
    public void dueFault(int fault, String marked) {
        int place = marked.indexOf('@');
        String text = marked.replace("@", "");
        StaveHouse house = new StaveHouse();
        put(house, text);
        due("read of " + marked, house.read(0), place < 0 ? 0 : fault + 16 * place);
        due("look behind " + marked, house.look(0, 0) == StaveHouse.NONE ? 1 : 0, place < 0 ? 0 : 1);
    }

    /** A house with a right text at place 0. */
    public StaveHouse house(String text) {
        StaveHouse house = new StaveHouse();
        readAt(house, 0, text);
        return house;
    }

    public void readAt(StaveHouse house, int h, String text) {
        put(house, text);
        due("read of " + text, house.read(h), 0);
    }

    public static void put(StaveHouse house, String text) {
        put(house, text.getBytes(StandardCharsets.ISO_8859_1));
    }

    public static void put(StaveHouse house, byte[] bytes) {
        for (int from = 0; from < bytes.length; from += 20) {
            int[] words = new int[5];
            int size = Math.min(20, bytes.length - from);
            for (int i = 0; i < size; i++) {
                words[i / 4] |= (bytes[from + i] & 255) << 24 - 8 * (i % 4);
            }
            house.feed(words[0], words[1], words[2], words[3], words[4]);
            house.end(size);
        }
    }

    public static byte[] bytes(int... values) {
        byte[] row = new byte[values.length];
        for (int i = 0; i < values.length; i++) {
            row[i] = (byte) values[i];
        }
        return row;
    }

    public static byte[] join(byte[]... rows) {
        int size = 0;
        for (byte[] row : rows) {
            size += row.length;
        }
        byte[] all = new byte[size];
        int at = 0;
        for (byte[] row : rows) {
            System.arraycopy(row, 0, all, at, row.length);
            at += row.length;
        }
        return all;
    }

    /** What was written latest. */
    public static String written(StaveHouse house, int size) {
        StringBuilder text = new StringBuilder();
        for (int i = 0; i < size; i++) {
            text.append((char) house.out(i));
        }
        return text.toString();
    }

    public void finish() {
        System.out.println(asked + " answers looked at, " + wrong + " not as due");
        if (wrong != 0 || asked == 0) {
            System.exit(1);
        }
    }
}
