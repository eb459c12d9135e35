/** Promise 4, Part I: the language of texts and the faults 1 to 5; @ stands ahead of the wrong token. */
public final class TextFaultsTest {
    private static final Checks CHECKS = new Checks();
    private static final String VOICE = "voice v treble 0 {";

    public static void main(String[] args) {
        rightTexts();
        noTokens();
        heads();
        lets();
        voices();
        items();
        lengthsAndMarks();
        openings();
        numbers();
        CHECKS.finish();
    }

    private static void right(String text) {
        CHECKS.dueFault(0, text);
    }

    private static void wrong(int fault, String text) {
        CHECKS.dueFault(fault, text);
    }

    private static void rightTexts() {
        right(VOICE + "c4}");
        right("voice v treble 0{c4}\r\n\t ");
        right("key - 7 minor time 12/16 tempo 300 let m={} let n={} " + VOICE + "use m use n b8 cbb0}");
        right("tempo 20 time 1/2 key 0007 major " + VOICE + "c##4:1..~c##4:32.}");
        right("let c = {c4} voice c bass 3 {use c}");
        right("key 0 major " + VOICE + "c4}");
        right("let az = {} voice zazzaz treble 0 {use az c4}");
        right("key -0 minor " + VOICE + "c4}");
        right(VOICE + "<c4 d4 e4 f4 g4 a4>:4~('^-% c4:2..)}");
    }

    private static void noTokens() {
        wrong(1, "@A");
        wrong(1, "@;");
        wrong(1, "@#");
        wrong(1, "key @1a major");
        wrong(1, "key @12345 major");
        wrong(1, "voice @abcdefghi treble 0 {c4}");
        wrong(1, VOICE + "@c9}");
        wrong(1, VOICE + "@h4}");
        wrong(1, VOICE + "@c#b4}");
        wrong(1, VOICE + "@c###4}");
        wrong(1, VOICE + "@cbbb4}");
        wrong(1, VOICE + "@c44}");
        wrong(1, VOICE + "@c4d4}");
        wrong(1, VOICE + "c4 @\u0080}");
        wrong(1, VOICE + "c4} @\0");
        wrong(1, VOICE + "<c4 @C4>}");
        wrong(1, VOICE + "c4:@8th}");
        right(VOICE + "bb4 bbb4 b4 a##0 f#8}");
    }

    private static void heads() {
        wrong(2, "@");
        wrong(2, "key@");
        wrong(2, "key @major");
        wrong(2, "key - @- 1 major");
        wrong(2, "key 1 @dorian");
        wrong(2, "key 1 major @key 1 major");
        wrong(2, "time 4/4 @time 4/4");
        wrong(2, "tempo 99 key 1 minor @tempo 99");
        wrong(2, "time 4 @4");
        wrong(2, "time 4/@c4");
        wrong(2, "tempo @fast");
        wrong(2, "tempo 99 @}");
        wrong(2, "@c4");
        wrong(2, VOICE + "c4} @tempo 99");
        wrong(2, VOICE + "c4} @let m = {}");
        wrong(2, "tempo 99 \n @");
    }

    private static void lets() {
        wrong(2, "let @f = {}");
        wrong(2, "let @r = {}");
        wrong(2, "let @tenor = {}");
        wrong(2, "let @4 = {}");
        wrong(2, "let m @{}");
        wrong(2, "let m = @c4");
        wrong(2, "let m = {@let n = {}}");
        wrong(4, "let m = {} let @m = {}");
        right("let m={}let n={}let o={}let q={}let s={}let t={}" + VOICE + "c4}");
        wrong(2, "let m={}let n={}let o={}let q={}let s={}let t={}@let u={}");
        wrong(4, "let m = {use @m}");
        wrong(4, "let m = {use @n} let n = {}");
        wrong(4, VOICE + "use @v}");
        wrong(2, VOICE + "use @mf}");
        wrong(2, VOICE + "use @c4}");
        wrong(2, VOICE + "use @}");
    }

    private static void voices() {
        wrong(2, "voice @bass bass 0 {c4}");
        wrong(2, "voice v @soprano 0 {c4}");
        wrong(2, "voice v bass @{c4}");
        wrong(2, "voice v bass 0 @c4");
        wrong(4, VOICE + "c4} voice @v bass 0 {c4}");
        wrong(2, VOICE + "c4} @}");
        wrong(2, VOICE + "c4@");
        wrong(2, VOICE + "c4 @]");
        String four = "voice a treble 0{c4}voice b bass 1{c4}voice c alto 2{c4}voice d tenor 3{c4}";
        right(four);
        wrong(2, four + "@voice e bass 0{c4}");
    }

    private static void items() {
        wrong(2, VOICE + "@4}");
        wrong(2, VOICE + "@alt {c4}}");
        wrong(2, VOICE + "@{c4}}");
        wrong(2, VOICE + "@>}");
        wrong(2, VOICE + "@key}");
        wrong(2, VOICE + "<c4@>}");
        wrong(2, VOICE + "<@>}");
        wrong(2, VOICE + "<c4 d4 e4 f4 g4 a4 @b4>}");
        wrong(2, VOICE + "<c4 d4 @r>}");
        right(VOICE + "<c4 d4 e4 f4 g4 a4>}");
        wrong(2, VOICE + "! @m}");
        wrong(2, VOICE + "! @4}");
        right(VOICE + "!ppp !pp !p !mp !mf !f !ff !fff c4}");
        wrong(2, VOICE + "[@c4]}");
        wrong(2, VOICE + "[3 @2: c4]}");
        wrong(2, VOICE + "[3/2 @c4]}");
        wrong(2, VOICE + "[3/2: c4 @}}");
        wrong(2, VOICE + "repeat @{c4}}");
        wrong(2, VOICE + "repeat 2 @c4}");
        wrong(2, VOICE + "repeat 2 {c4} alt @c4}");
        right(VOICE + "repeat 2 {c4} alt {}{}{}{}{}}");
        wrong(2, VOICE + "repeat 2 {c4} alt {} @alt {}}");
        wrong(2, VOICE + "move c4 @{c4}}");
        wrong(2, VOICE + "move @4 c4 {c4}}");
        wrong(2, VOICE + "move c4 d4 @e4 {c4}}");
        wrong(2, VOICE + "mirror @{c4}}");
        wrong(2, VOICE + "mirror c4 @c4 {c4}}");
        wrong(2, VOICE + "back @c4}");
        wrong(2, VOICE + "slow 2 @{c4}}");
        wrong(2, VOICE + "slow 2/1 @c4}");
    }

    private static void lengthsAndMarks() {
        wrong(2, VOICE + "c4:@c4}");
        wrong(2, VOICE + "c4:4..@.}");
        wrong(2, VOICE + "c4 @.}");
        wrong(2, VOICE + "c4' @:4}");
        wrong(2, VOICE + "r@~}");
        wrong(2, VOICE + "r:4@'}");
        wrong(2, VOICE + "@~}");
        wrong(2, VOICE + "c4'@'}");
        wrong(2, VOICE + "c4~()'^-%@~}");
        wrong(2, VOICE + "<c4 d4>^-@^}");
        wrong(2, VOICE + "c4 @=}");
        right(VOICE + "c4 : 4 . . ' ^ - %}");
    }

    private static void openings() {
        right(VOICE + "back{back{back{back{back{back{back{c4}}}}}}}}");
        wrong(3, VOICE + "back{back{back{back{back{back{back{back@{c4}}}}}}}}}");
        wrong(3, VOICE + "back{back{back{back{back{back{back{@[3/2:c4]}}}}}}}}");
        wrong(3, "let m={back{back{back{back{back{back{back{repeat 2@{}}}}}}}}}");
        right(VOICE + "back{back{back{back{back{back{back{c4}back{c4}}}}}}}}");
    }

    private static void numbers() {
        wrong(5, "key @8 major");
        wrong(5, "key -@8 major");
        wrong(5, "time @0/4");
        wrong(5, "time @13/4");
        wrong(5, "time 4/@1");
        wrong(5, "time 4/@3");
        wrong(5, "time 4/@32");
        wrong(5, "time 4/@0");
        wrong(5, "tempo @19");
        wrong(5, "tempo @301");
        wrong(5, "voice v bass @4 {c4}");
        wrong(5, VOICE + "c4:@0}");
        wrong(5, VOICE + "c4:@3}");
        wrong(5, VOICE + "c4:@64}");
        wrong(5, VOICE + "[@1/2: c4]}");
        wrong(5, VOICE + "[@10/2: c4]}");
        wrong(5, VOICE + "[2/@0: c4]}");
        wrong(5, VOICE + "[2/@10: c4]}");
        wrong(5, VOICE + "repeat @1 {c4}}");
        wrong(5, VOICE + "repeat @5 {c4}}");
        wrong(5, VOICE + "slow @0/1 {c4}}");
        wrong(5, VOICE + "slow @9/1 {c4}}");
        wrong(5, VOICE + "slow 1/@0 {c4}}");
        wrong(5, VOICE + "slow 1/@9 {c4}}");
        right("key 7 major time 12/16 tempo 20 " + "voice v bass 3 {repeat 4 {c4:1} slow 8/8 {c4:32}}");
    }
}
