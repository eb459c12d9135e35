/** Promise 10, Part IV: notes, their forms, what is held on, accidentals, ledgers, beams, stems. */
public final class StavesTest {
    private static final Checks CHECKS = new Checks();

    public static void main(String[] args) {
        wholeRow();
        forms();
        rests();
        brackets();
        heldOn();
        accidentals();
        keys();
        ledgers();
        beams();
        stems();
        wrongAsked();
        CHECKS.finish();
    }

    private static long[] row(StaveHouse house, int i) {
        long[] row = new long[12];
        for (int what = 0; what < 12; what++) {
            row[what] = house.note(0, 0, i, what);
        }
        return row;
    }

    /** What is asked of all notes of the first voice, one behind the other. */
    private static void dueAll(String text, int what, long... want) {
        StaveHouse house = CHECKS.house(text);
        long[] got = new long[house.voice(0, 0, 3)];
        for (int i = 0; i < got.length; i++) {
            got[i] = house.note(0, 0, i, what);
        }
        CHECKS.dueRow(text + " asked for " + what, got, want);
    }

    /** Forms and points as 10 * form + points. */
    private static void dueForms(String text, long... want) {
        StaveHouse house = CHECKS.house(text);
        long[] got = new long[house.voice(0, 0, 3)];
        for (int i = 0; i < got.length; i++) {
            got[i] = 10 * house.note(0, 0, i, 4) + house.note(0, 0, i, 5);
        }
        CHECKS.dueRow(text, got, want);
    }

    private static void wholeRow() {
        StaveHouse house = CHECKS.house("key -1 major voice v treble 0 {c4:8 <b3 f#4>:4 g5:8 a5:16. a5:32 r:8}");
        CHECKS.dueRow("note 0", row(house, 0), 0, 0, 0, 1, 3, 0, 0, 0, 1, 0, 1, 1);
        CHECKS.dueRow("note 1", row(house, 1), 1, 0, 1, 8, 3, 0, 3, 3, 1, 0, 0, 1);
        CHECKS.dueRow("note 2", row(house, 2), 1, 0, 1, 4, 3, 0, 0, 0, 1, 1, 1, 2);
        CHECKS.dueRow("note 3", row(house, 3), 2, 0, 3, 8, 3, 0, 0, 0, 0, 1, 0, 2);
        CHECKS.dueRow("note 4", row(house, 4), 3, 0, 1, 2, 4, 1, 0, 0, 1, 2, 2, 2);
        CHECKS.dueRow("note 5", row(house, 5), 4, 0, 19, 32, 5, 0, 0, 0, 1, 2, 0, 2);
        CHECKS.dueRow("note 6", row(house, 6), 5, 0, 5, 8, 3, 0, 0, 0, 0, -1, 0, 0);
        CHECKS.dueRow("note 7", row(house, 7), -1, 0, 3, 4, 2, 0, 0, 0, 0, -1, 0, 0);
        CHECKS.due("notes", house.voice(0, 0, 3), 8);
    }

    private static void forms() {
        dueForms("voice v treble 0 {c4:1 c4:1. c4:1.. c4:4}", 0, 0, 10, 10, 0, 20, 20, 10);
        dueForms("voice v treble 0 {c4:4 c4:2 c4:4}", 20, 20, 20, 20);
        dueForms("voice v treble 0 {c4:4 c4:2.}", 20, 11);
        dueForms("voice v treble 0 {c4:2.. c4:8}", 12, 30);
        dueForms("voice v treble 0 {c4:8 c4:2.. c4:1}", 30, 12, 0);
        dueForms("time 3/4 voice v treble 0 {c4:4 c4:2 c4:2. c4:2 c4:4}", 20, 10, 11, 10, 20);
        dueForms("time 3/4 voice v treble 0 {c4:8 c4:4 c4:4.}", 30, 30, 30, 21);
        dueForms("time 6/8 voice v treble 0 {c4:4 c4:4 c4:4}", 20, 30, 30, 20);
        dueForms("time 6/8 voice v treble 0 {c4:8 c4:4 c4:8 c4:4}", 30, 20, 30, 20);
        dueForms("time 6/8 voice v treble 0 {c4:2.}", 11);
        dueForms("time 5/8 voice v treble 0 {c4:2 c4:8 c4:8 c4:2}", 10, 30, 30, 10);
        dueForms("time 12/16 voice v treble 0 {c4:16 c4:8. c4:4 c4:4}", 40, 30, 40, 30, 30, 20);
        dueForms("voice v treble 0 {slow 1/4{c4:32} slow 5/4{c4:32} r:32}", 70, 61, 60, 60, 60, 51, 12);
        dueForms("time 5/4 voice v treble 0 {slow 5/4{c4:1}}", 0, 20);
        // half of an even bar is strong, where it is no beat, too; half of an odd one is nothing
        dueForms("time 10/8 voice v treble 0 {r:4. c4:4 c4 c4 c4:8}", 21, 20, 20, 30, 30, 30);
        dueForms("time 10/8 voice v treble 0 {r:2 c4:4 r:2}", 10, 30, 30, 10);
        dueForms("time 2/8 voice v treble 0 {r:16 c4:8 r:16}", 40, 40, 40, 40);
        dueForms("time 3/4 voice v treble 0 {r:4 r:16. c4:16 r:32 r:16 r:4}", 20, 41, 50, 50, 50, 40, 20);
        dueForms("time 12/2 voice v treble 0 {slow 6/1{c4:1}}", 2, 11, 10, 2, 11, 10);
    }

    private static void rests() {
        dueForms("voice v treble 0 {r:1}", 90);
        dueForms("time 3/4 voice v treble 0 {r:1. c4:4}", 90, 90, 20, 10);
        dueForms("voice v treble 0 {c4:2 slow 2/1{r:1} c4:2}", 10, 10, 90, 10, 10);
        dueForms("voice v treble 0 {[2/1:r:1 r:1]}", 0, 0);
        dueForms("voice v treble 0 {r:2 r:2}", 10, 10);
        dueAll("voice v treble 0 {c4:2 slow 2/1{r:1} c4:2}", 0, 0, 1, 1, 1, 2);
        dueAll("voice v treble 0 {c4:2 slow 2/1{r:1} c4:2}", 1, 0, 0, 1, 2, 2);
        dueAll("voice v treble 0 {c4:2 slow 2/1{r:1} c4:2}", 2, 0, 1, 0, 0, 1);
        dueAll("voice v treble 0 {c4:4}", 0, 0, -1);
        dueForms("voice v treble 0 {c4:4}", 20, 11);
        dueForms("voice v treble 0 {c4:8}", 30, 12);
        dueForms("time 2/4 voice v treble 0 {c4:16}", 40, 22);
    }

    private static void brackets() {
        String triplets = "voice v treble 0 {[3/2:c4:8 d4 e4] [3/2:c4:4 d4:8] [5/4:c4:16. d4:32 c4:8 d4:16] r:4}";
        dueForms(triplets, 30, 30, 30, 20, 30, 41, 50, 30, 40, 20);
        dueAll(triplets, 2, 0, 1, 1, 1, 5, 1, 23, 3, 7, 3);
        dueAll(triplets, 3, 1, 12, 6, 4, 12, 2, 40, 5, 10, 4);
        dueForms("voice v treble 0 {[2/1:slow 5/4{c4:4} slow 3/4{c4:4}]}", 20, 40, 31, 11);
        StaveHouse within = CHECKS.house("voice v treble 0 {[3/2:c4:8 [3/2:c4:16 c4 c4] c4:8] r:2.}");
        CHECKS.due("place within two", within.note(0, 0, 2, 2), 1);
        CHECKS.due("place within two", within.note(0, 0, 2, 3), 9);
        CHECKS.due("form within two", within.note(0, 0, 2, 4), 4);
        // in a later bar, and written in two notes
        String later = "voice v treble 0 {c4:1 r:2 [2/1:slow 5/4{c4:4} slow 3/4{c4:4}] r:4}";
        dueForms(later, 0, 10, 20, 40, 31, 20);
        dueAll(later, 1, 0, 1, 1, 1, 1, 1);
        dueAll(later, 2, 0, 0, 1, 5, 21, 3);
        dueAll(later, 3, 1, 1, 2, 8, 32, 4);
    }

    private static void heldOn() {
        dueAll("voice v treble 0 {c4:2. <c4 e4 g4>:2 c4:2.}", 6, 0, 7, 0, 0);
        dueAll("voice v treble 0 {<c4 e4 g4>:4~ <d4 e4 g4>~ <e#4 g4> r}", 6, 6, 4, 0, 0);
        dueAll("voice v treble 0 {c4:2. c4:2~ c4:2.}", 6, 0, 1, 1, 0);
        dueAll("voice v treble 0 {r:2. r:2 c4:2.}", 6, 0, 0, 0, 0);
    }

    private static void accidentals() {
        dueAll("voice v treble 0 {f4:4 f#4 f#4 f4 f4 f#4 f#5 r}", 7, 0, 1, 0, 1, 0, 1, 1, 0);
        dueAll("key 1 major voice v treble 0 {f4:4 f#4 f#4 f5}", 7, 1, 1, 0, 1);
        dueAll("key -2 minor voice v treble 0 {bb4:4 b4 <e4 b4> <eb4 bb4>}", 7, 0, 1, 1, 3);
        dueAll("key 7 major voice v treble 0 {<c#4 d#4 e#4 f#4 g#4 a#4>:4 b#4 b4 b##4}", 7, 0, 0, 1, 1);
        dueAll("key -7 major voice v treble 0 {<cb4 db4 eb4 fb4 gb4 ab4>:4 bb4 bbb4 b4}", 7, 0, 0, 1, 1);
        // held on into the next bar it has none and changes nothing there
        dueAll("voice v treble 0 {r:2. f#4:4~ f#4:4 f#4 f#4 r}", 7, 0, 1, 0, 1, 0, 0);
        dueAll("voice v treble 0 {r:2. f#4:2 f#4:2.}", 7, 0, 1, 0, 1);
        dueAll("voice v treble 0 {r:2. <f#4 c#4>:4~ <f#4 c#5>:4 c#5 f#4 r}", 7, 0, 3, 2, 0, 1, 0);
    }

    /** In each key the naturals that it alters have an accidental. */
    private static void keys() {
        String sharps = "fcgdaeb";
        String scale = "cdefgab";
        for (int fifths = -7; fifths <= 7; fifths++) {
            StaveHouse house = CHECKS.house("key " + (fifths < 0 ? "-" : "") + Math.abs(fifths) + " major time 7/4 voice v treble 0"
                + " {c4 d4 e4 f4 g4 a4 b4}");
            for (int letter = 0; letter < 7; letter++) {
                int rank = sharps.indexOf(scale.charAt(letter));
                boolean altered = fifths > 0 ? rank < fifths : 6 - rank < -fifths;
                CHECKS.due(scale.charAt(letter) + " with " + fifths, house.note(0, 0, letter, 7), altered ? 1 : 0);
            }
        }
    }

    private static void ledgers() {
        dueAll("voice v treble 0 {d4:4 c4 b3 a3 <a3 c4> <c4 g5> <a5 b5> <c4 c6>}", 8, 0, 1, 1, 2, 2, 1, 1, 3);
        dueAll("voice v bass 0 {e2:4 c4 d4 e4}", 8, 1, 1, 1, 2);
        dueAll("voice v alto 0 {e3:4 d3 c5 a4}", 8, 0, 1, 1, 0);
        dueAll("voice v tenor 0 {c3:4 b2 a4 f4}", 8, 0, 1, 1, 0);
    }

    private static void beams() {
        String eighths = "voice v treble 0 {c4:8 c4 c4:16 c4 c4:8 c4:8 r:8 c4:8 c4:32 c4 c4:16}";
        dueAll(eighths, 9, 0, 0, 1, 1, 1, -1, -1, 2, 2, 2, 2);
        dueAll(eighths, 10, 1, 0, 2, 1, 0, 0, 0, 1, 3, 2, 0);
        dueAll("time 6/8 voice v treble 0 {c4:8 c4 c4 c4 c4 c4}", 9, 0, 0, 0, 1, 1, 1);
        dueAll("time 5/8 voice v treble 0 {c4:8 c4 c4 c4 c4}", 9, 0, 0, 1, 1, -1);
        dueAll("time 3/8 voice v treble 0 {c4:8 c4 c4 c4 c4 c4}", 9, 0, 0, 0, 1, 1, 1);
        dueAll("time 4/2 voice v treble 0 {c4:8 c4 c4 c4 c4:2 r:1}", 9, 0, 0, 0, 0, -1, -1);
        dueAll("voice v treble 0 {c4:4 c4:8 c4:4 c4:8 c4:4}", 9, -1, 0, 0, 1, 1, -1);
        dueAll("voice v treble 0 {[3/2:c4:8 r c4] [3/2:c4:8 c4 c4] r:2}", 9, -1, -1, -1, 0, 0, 0, -1);
    }

    private static void stems() {
        dueAll("voice v treble 0 {a4:4 b4 <a4 c5> <g4 c5> b4:1 r}", 11, 1, 2, 2, 1, 0, 0);
        dueAll("voice v treble 0 {a4:8 c5 a4 b4 f4 c5 d5:16 a4 b4 g4}", 11, 2, 2, 1, 1, 1, 1, 1, 1, 1, 1);
        dueAll("voice v bass 0 {c3:4 d3:2 c3:1}", 11, 1, 2, 2, 1, 1, 0);
    }

    private static void wrongAsked() {
        StaveHouse house = CHECKS.house("voice v treble 0 {c4:1}");
        int[] far = {Integer.MIN_VALUE, -1, 2, Integer.MAX_VALUE};
        for (int n : far) {
            CHECKS.due("note of piece " + n, house.note(n, 0, 0, 0), -1);
            CHECKS.due("note of voice " + n, house.note(0, n, 0, 0), -1);
            CHECKS.due("note " + n, house.note(0, 0, n, 0), -1);
        }
        CHECKS.due("note 1 of one", house.note(0, 0, 1, 0), -1);
        CHECKS.due("note, 12", house.note(0, 0, 0, 12), -1);
        CHECKS.due("note, -1", house.note(0, 0, 0, -1), -1);
        CHECKS.due("without a piece", house.note(1, 0, 0, 4), -1);
    }
}
