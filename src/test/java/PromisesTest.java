/** Each promise of the document by its number: ordinary inputs, the edges, and wrong inputs. */
public final class PromisesTest {
    private static final String INDEX = "IndexOutOfBoundsException";
    private static final String ARGUMENT = "IllegalArgumentException";
    private static final String STATE = "IllegalStateException";
    private static final int NONE = HiddenWords.NONE;
    private static final int LOW = Integer.MIN_VALUE;
    private static final int HIGH = Integer.MAX_VALUE;

    /** Places of x: abc bca cab, of y: bca cab abc, of z: aac. Words: abc 5, bca 15, cab 19, aac 2. */
    private static final String XYZ = "letters 3; row x abcab; row y bcabc; row z aac;";
    private static final int AAC = 2;
    private static final int ABC = 5;
    private static final int BCA = 15;
    private static final int CAB = 19;

    private static final Check CHECK = new Check("the promises");
    private static HiddenWords x;
    /** What stands in the buffer behind a text, until it is truncated. */
    private static String pad = "\0";

    private PromisesTest() {
    }

    public static void main(String[] args) {
        promise1NewObject();
        promise2Feed();
        promise3Truncate();
        promise4ReadText();
        promises6And7ErrorsOfTexts();
        promise5RunScript();
        promise5EndOfScript();
        promises6And7ErrorsOfScripts();
        promise8Setting();
        promise9Row();
        promises10To12LetterWordAtDiffer();
        promises13To17Distances();
        promises18And19Shared();
        promises20And21Hits();
        promises22To24Kinds();
        promise25Best();
        promises26And27BoundMostHad();
        promises28And29Without();
        promises30And31Order();
        promise32Second();
        promises33To36Profile();
        promises37And38TryFrom();
        promises39And40Shares();
        promise41ImprovesToEnd();
        promises42And43ChooseClear();
        promises44And45BetterImprove();
        promises46To49Take();
        promises50And51OutChanges();
        promises52And53Report();
        promise54Undo();
        promise54UndoEach();
        promises55And56Save();
        theNextText();
        theLargestText();
        CHECK.end();
    }

    private static void due(String call, Check.Call answer, Object due) {
        CHECK.due(call, Check.answerOf(answer), String.valueOf(due));
    }

    private static void feed(String text) {
        String whole = text + pad.repeat(19);
        x.truncate(0);
        for (int k = 0; k < text.length(); k += 20) {
            x.feed(four(whole, k), four(whole, k + 4), four(whole, k + 8), four(whole, k + 12), four(whole, k + 16));
        }
        x.truncate(text.length());
    }

    private static int four(String text, int k) {
        return text.charAt(k) << 24 | text.charAt(k + 1) << 16 | text.charAt(k + 2) << 8 | text.charAt(k + 3);
    }

    private static void read(String text) {
        x = new HiddenWords();
        feed(text);
        due(text, () -> x.readText() >= 0, true);
    }

    private static String run(String script) {
        feed(script);
        return Check.answerOf(() -> x.runScript());
    }

    private static String reported() {
        StringBuilder text = new StringBuilder();
        int size = x.report();
        for (int i = 0; i < size; i++) {
            text.append((char) x.reportByte(i));
        }
        return text.toString();
    }

    /** The state, as far as it can be seen by calls that change nothing but the report. */
    private static String seen() {
        StringBuilder text = new StringBuilder(reported());
        for (int what = 0; what < 10; what++) {
            text.append(x.setting(what)).append(' ');
        }
        for (int i = 0; i < 6; i++) {
            text.append(x.taken(i)).append(' ');
        }
        for (int r = 0; r < x.setting(0); r++) {
            for (int what = 0; what < 5; what++) {
                text.append(x.row(r, what)).append(' ');
            }
        }
        return text.toString();
    }

    /** The call throws this and changes nothing; nor can it be undone. What is saved is lost. */
    private static void fails(String call, Check.Call answer, String exception) {
        x.save();
        x.restore();
        x.truncate(0);
        int size = x.feed(0, 0, 0, 0, 0);
        String before = seen() + x.errorCode() + x.errorPosition();
        due(call, answer, exception);
        CHECK.due(call + " changes nothing", seen() + x.errorCode() + x.errorPosition(), before);
        due(call + " leaves the buffer", () -> x.truncate(size), size);
        due(call + " cannot be undone", () -> x.undo(), NONE);
    }

    // ---- texts

    private static void promise1NewObject() {
        x = new HiddenWords();
        int[] settings = {0, 4, 3, 1, 64, 0, 0, 0, 0, 0};
        for (int what = 0; what < settings.length; what++) {
            int w = what;
            due("new: setting " + w, () -> x.setting(w), settings[w]);
        }
        due("new: errorCode", () -> x.errorCode(), 0);
        due("new: errorPosition", () -> x.errorPosition(), NONE);
        due("new: reportByte", () -> x.reportByte(0), INDEX);
        due("new: undo", () -> x.undo(), NONE);
        due("new: restore", () -> x.restore(), STATE);
        due("new: truncate", () -> x.truncate(1), ARGUMENT);
        due("new: readText", () -> x.readText(), 0);
        due("new: best word", () -> x.best(0), 0);
        due("new: asked", () -> x.best(2), 12);
        due("new: cut", () -> x.best(3), 9);
        due("new: feed", () -> x.feed(0, 0, 0, 0, 0), 20);
    }

    private static void promise2Feed() {
        x = new HiddenWords();
        for (int k = 1; k <= 30; k++) {
            due("feed " + k, () -> x.feed(1, 2, 3, 4, 5), 20 * k);
        }
        due("feed 31", () -> x.feed(1, 2, 3, 4, 5), STATE);
        due("600 bytes stay", () -> x.truncate(600), 600);
        x.truncate(581);
        due("feed to 601", () -> x.feed(1, 2, 3, 4, 5), STATE);
        due("581 bytes stay", () -> x.truncate(582), ARGUMENT);
        x.truncate(580);
        due("feed to 600", () -> x.feed(1, 2, 3, 4, 5), 600);

        read("row abc dcba;row x aa;");
        CHECK.due("bytes in their order", reported(), "abc dcba\nx aa\n");
        x.feed(0x726f7720, 0x61206162, 0x3b0a2020, 0xff000000, 0);
        due("a byte over 127", () -> x.readText(), ARGUMENT);
        due("its position", () -> x.errorPosition(), 12);
    }

    private static void promise3Truncate() {
        x = new HiddenWords();
        feed("row a ab;row b ba;");
        due("truncate to more", () -> x.truncate(19), ARGUMENT);
        due("truncate to less than nothing", () -> x.truncate(-1), ARGUMENT);
        due("truncate to the least", () -> x.truncate(LOW), ARGUMENT);
        due("truncate to the same", () -> x.truncate(18), 18);
        due("truncate", () -> x.truncate(9), 9);
        due("what is left", () -> x.readText(), 1);
        due("truncate to nothing", () -> x.truncate(0), 0);
    }

    private static void promise4ReadText() {
        read(XYZ);
        x.report();
        x.save();
        x.choose(0, 0);
        x.take(AAC);
        x.setOut(1, true);
        x.truncate(0);
        feed("row a ab;");
        due("readText", () -> x.readText(), 1);
        due("the buffer is empty", () -> x.feed(0, 0, 0, 0, 0), 20);
        due("the report stays", () -> x.reportByte(0), (int) 'x');
        due("undo is forgotten", () -> x.undo(), NONE);
        int[] settings = {1, 4, 3, 1, 64, 0, 0, 0, 0, 0};
        for (int what = 0; what < settings.length; what++) {
            int w = what;
            due("replaced: setting " + w, () -> x.setting(w), settings[w]);
        }
        due("what is saved stays", () -> x.restore(), 3);

        x.choose(0, 1);
        x.take(AAC);
        String before = seen();
        feed("letters 2; length 2; changes 3; row q ab; row");
        due("readText of an error", () -> x.readText(), ARGUMENT);
        CHECK.due("an error changes nothing", seen(), before);
        due("the buffer is empty behind an error", () -> x.truncate(1), ARGUMENT);
        due("undo is not forgotten", () -> x.undo(), 1);
        due("the error's code", () -> x.errorCode(), 1);

        read("\n letters 2;length 2 ;\nchanges 003; row row ab ;");
        due("letters", () -> x.setting(1), 2);
        due("length", () -> x.setting(2), 2);
        due("changes", () -> x.setting(3), 3);
        due("error code of a right text", () -> x.errorCode(), 0);
        due("error position of a right text", () -> x.errorPosition(), NONE);
        CHECK.due("a name as a keyword", reported(), "row ab\n");
        read("row abcdefgh " + "abcd".repeat(7) + "ab;length6;changes0;");
        due("30 letters", () -> x.row(0, 0), 30);
        due("length behind a row", () -> x.setting(2), 6);
        due("4096 words", () -> x.setting(4), 4096);
        read("row a aa;row b aa;row c aa;row d aa;row e aa;row f aa;row g aa;row h aa;row i aa;row j aa;");
        due("10 rows", () -> x.setting(0), 10);
    }

    private static void wrongText(String text, int code, int position) {
        for (String behind : new String[] {"\0", " ", "a", "7", ";", ")"}) {
            pad = behind;
            wrongPaddedText(text, code, position);
        }
        pad = "\0";
    }

    private static void wrongPaddedText(String text, int code, int position) {
        read(XYZ);
        feed(text);
        due("readText: " + text, () -> x.readText(), ARGUMENT);
        due("errorCode: " + text, () -> x.errorCode(), code);
        due("errorPosition: " + text, () -> x.errorPosition(), position);
        due("the old text stays: " + text, () -> x.setting(0), 3);
        feed("row a ab;");
        x.readText();
        due("no code any more: " + text, () -> x.errorCode(), 0);
        due("no position any more: " + text, () -> x.errorPosition(), NONE);
    }

    private static void promises6And7ErrorsOfTexts() {
        wrongText("x", 1, 0);
        wrongText("rows a ab;", 1, 0);
        wrongText("Row a ab;", 1, 0);
        wrongText("\trow a ab;", 1, 0);
        wrongText(" \n ;", 1, 3);
        wrongText("(", 1, 0);
        wrongText("5;", 1, 0);
        wrongText("row", 1, 3);
        wrongText("row a", 1, 5);
        wrongText("row a ab", 1, 8);
        wrongText("row a ab \n", 1, 10);
        wrongText("row a ab)", 1, 8);
        wrongText("row a ab;$", 1, 9);
        wrongText("row a ab;\u00e9", 1, 9);
        wrongText("row a ab;;", 1, 9);
        wrongText("row a 5;", 1, 6);
        wrongText("row 5 ab;", 1, 4);
        wrongText("row abcdefghi ab;", 1, 4);
        wrongText("row a " + "a".repeat(31) + ";", 1, 6);
        wrongText("letters x;", 1, 8);
        wrongText("letters 0004;", 1, 8);
        wrongText("letters ;", 1, 8);
        wrongText("letters", 1, 7);
        wrongText("letters 4", 1, 9);
        wrongText("letters 4 4;", 1, 10);
        wrongText("letters 1;", 2, 8);
        wrongText("letters 5;", 2, 8);
        wrongText("length 1;", 2, 7);
        wrongText("length 7;", 2, 7);
        wrongText("changes 4;", 2, 8);
        wrongText("changes 999;", 2, 8);
        wrongText("changes 4", 2, 8);
        wrongText("row a a;", 2, 6);
        wrongText("letters 2; row a c;", 2, 17);
        wrongText("row a ab; row a ba;", 3, 14);
        wrongText("row a ab; row a b;", 3, 14);
        wrongText("row a abe;", 3, 6);
        wrongText("letters 2;row a abc;", 3, 16);
        wrongText("letters 3;row a abd", 3, 16);
        wrongText("letters 2;letters 2;", 4, 10);
        wrongText("length 3; length 3;", 4, 10);
        wrongText("changes 1;changes 9;", 4, 10);
        wrongText("row a ab;letters 4;", 4, 9);
        wrongText("row a ab;letters $", 4, 9);
        wrongText("row a ab;" + " ".repeat(588) + "row", 1, 600);
        wrongText("row a ab;" + " ".repeat(588) + "ro" + "\n", 1, 597);
        wrongText("row a ab;" + " ".repeat(582) + "changes 3", 1, 600);
        wrongText("row a ab;" + " ".repeat(590) + ")", 1, 599);
        StringBuilder rows = new StringBuilder();
        for (char c = 'a'; c <= 'j'; c++) {
            rows.append("row ").append(c).append(" aa;");
        }
        wrongText(rows + "row k aa;", 6, 90);
        wrongText(rows + "row a a;", 6, 90);
        wrongText(rows + "rows a a;", 1, 90);
    }

    // ---- scripts

    private static void promise5RunScript() {
        read(XYZ);
        CHECK.due("commands until one throws", run("choose x 1;better y;clear x;improve 50;take aac;best;changes 2;"), "5");
        CHECK.due("best has no row any more", reported(), "x ***ab\ny bc***\nz ***\n");
        read(XYZ);
        CHECK.due("choose", run("choose x 1;"), "1");
        due("chosen", () -> x.row(0, 2), 1);
        CHECK.due("clear", run("clear x;"), "1");
        due("cleared", () -> x.row(0, 2), NONE);
        CHECK.due("better", run("better z;better x;"), "2");
        due("bettered", () -> x.row(0, 2), 0);
        CHECK.due("improve", run("improve 1;"), "1");
        due("improved", () -> x.agreement(), 8);
        CHECK.due("out", run("out z;"), "1");
        due("is out", () -> x.row(2, 3), 1);
        CHECK.due("in", run("in z;"), "1");
        due("is in", () -> x.row(2, 3), 0);
        CHECK.due("changes", run("changes 0;"), "1");
        due("changed", () -> x.setting(3), 0);
        CHECK.due("take", run("take bca;"), "1");
        due("took", () -> x.taken(0), BCA);
        CHECK.due("best", run("best;"), "1");
        due("took the best", () -> x.taken(1), AAC);
        due("the buffer is empty", () -> x.feed(0, 0, 0, 0, 0), 20);
        CHECK.due("nothing", run(" \n "), "0");
        CHECK.due("600 bytes", run("repeat 2(changes 2;);" + "\n".repeat(569) + "changes 3;"), "3");

        read(XYZ);
        x.best(0);
        CHECK.due("best is another one behind each command", run("changes 0;best;best;"), "3");
        due("the first best", () -> x.taken(0), ABC);
        due("the second best", () -> x.taken(1), AAC);
        due("the best one behind the script", () -> x.best(0), 0);
        read(XYZ);
        x.best(0);
        CHECK.due("take, then best", run("changes 0;take aac;best;"), "3");
        due("the best behind take", () -> x.taken(1), ABC);
        CHECK.due("best behind out", run("in z;") + run("out z;changes 3;best;in z;"), "04");
        due("the best behind out", () -> x.taken(2), 0);

        read(XYZ);
        CHECK.due("repeat", run("repeat 3 ( choose x 0; clear x; ) ; changes 2;"), "7");
        due("behind repeat", () -> x.setting(3), 2);
        CHECK.due("repeat twice", run("repeat 2(repeat 3(changes 1;);better x;);"), "8");
        CHECK.due("empty repeat", run("repeat 20(repeat 20(););changes 3;"), "1");
        due("behind empty repeat", () -> x.setting(3), 3);
    }

    private static void promise5EndOfScript() {
        read(XYZ);
        CHECK.due("no place", run("changes 2;choose x 3;changes 3;"), "1");
        due("the commands before stay", () -> x.setting(3), 2);
        CHECK.due("none chosen", run("clear x;changes 3;"), "0");
        CHECK.due("left out", run("out x;better x;changes 3;"), "1");
        CHECK.due("the greatest numbers", run("changes 999;") + run("choose x 999;") + run("improve 999;"), "000");
        CHECK.due("improve 0", run("improve 0;changes 3;"), "0");
        CHECK.due("improve 51", run("improve 50;improve 51;changes 3;"), "1");
        CHECK.due("out already", run("out x;changes 3;"), "0");
        CHECK.due("in already", run("in x;in x;changes 3;"), "1");
        CHECK.due("changes 4", run("changes 4;changes 3;"), "0");
        CHECK.due("no row has it", run("changes 0;take bbb;changes 3;"), "1");
        CHECK.due("six", run("changes 3;repeat 8(take bbb;);changes 2;"), "7");
        CHECK.due("best of seven", run("best;"), "0");
        due("all end where they throw", () -> x.setting(3), 3);
        read(XYZ);
        CHECK.due("within repeats", run("repeat 5(repeat 2(out x;););changes 3;"), "1");
        due("a repeat ends the script", () -> x.setting(3), 1);
        x.setOut(0, false);
        CHECK.due("40 commands", run("repeat 3(repeat 13(changes 2;););changes 3;changes 0;"), "40");
        due("the 40th", () -> x.setting(3), 3);
        CHECK.due("39 commands", run("repeat 3(repeat 13(changes 2;););"), "39");
        CHECK.due("41 commands", run("repeat 20(changes 1;changes 0;choose x 2;);"), "40");
        due("the 40th again", () -> x.setting(3), 1);
        CHECK.due("30 commands", run("better x;".repeat(28) + "repeat 2(better y;);"), "30");
    }

    private static void wrongScript(String script, int code, int position) {
        for (String behind : new String[] {"\0", " ", "a", "7", ";", ")"}) {
            pad = behind;
            wrongPaddedScript(script, code, position);
        }
        pad = "\0";
    }

    private static void wrongPaddedScript(String script, int code, int position) {
        read(XYZ);
        x.save();
        feed(script);
        String before = seen();
        due("runScript: " + script, () -> x.runScript(), ARGUMENT);
        due("errorCode: " + script, () -> x.errorCode(), code);
        due("errorPosition: " + script, () -> x.errorPosition(), position);
        CHECK.due("no command is done: " + script, seen(), before);
        due("the buffer is empty: " + script, () -> x.truncate(1), ARGUMENT);
        due("cannot be undone: " + script, () -> x.undo(), NONE);
        CHECK.due("a right script: " + script, run("changes 2;"), "1");
        due("no code any more: " + script, () -> x.errorCode(), 0);
        due("no position any more: " + script, () -> x.errorPosition(), NONE);
    }

    private static void promises6And7ErrorsOfScripts() {
        wrongScript("changes 2;$", 1, 10);
        wrongScript("changes 2;row x ab;", 1, 10);
        wrongScript("changes 2", 1, 9);
        wrongScript("changes 0002;", 1, 8);
        wrongScript("changes x;", 1, 8);
        wrongScript("choose x;", 1, 8);
        wrongScript("choose 1 x;", 1, 7);
        wrongScript("clear abcdefghi;", 1, 6);
        wrongScript("clear x 1;", 1, 8);
        wrongScript("best x;", 1, 5);
        wrongScript("best);", 1, 4);
        wrongScript("best;)", 1, 5);
        wrongScript("take 5;", 1, 5);
        wrongScript("take " + "a".repeat(31) + ";", 1, 5);
        wrongScript("repeat 2;", 1, 8);
        wrongScript("repeat 2 (best;", 1, 15);
        wrongScript("repeat 2 (best;)", 1, 16);
        wrongScript("repeat 2 (best);", 1, 14);
        wrongScript("repeat 2 (;);", 1, 10);
        wrongScript("repeat (best;);", 1, 7);
        wrongScript("repeat 0 (best;);", 2, 7);
        wrongScript("repeat 21 (best;);", 2, 7);
        wrongScript("clear q;", 3, 6);
        wrongScript("choose q 1;", 3, 7);
        wrongScript("better row;", 3, 7);
        wrongScript("out q", 3, 4);
        wrongScript("in q;", 3, 3);
        wrongScript("take ab;", 3, 5);
        wrongScript("take abca;", 3, 5);
        wrongScript("take abd;", 3, 5);
        wrongScript("repeat 1(repeat 1(repeat 1(best;););));", 4, 18);
        wrongScript("best;".repeat(30) + "best;", 6, 150);
        wrongScript("best;".repeat(28) + "repeat 1(best;best;);", 6, 154);
        wrongScript("best;".repeat(28) + "repeat 1(repeat 1(repeat 1();););", 4, 158);
        wrongScript("best;".repeat(30) + "beat;", 1, 150);
    }

    // ---- rows, words

    private static void promise8Setting() {
        read(XYZ);
        x.choose(0, 1);
        x.choose(1, 0);
        x.setChanges(0);
        x.take(AAC);
        x.setOut(0, true);
        int[] settings = {3, 3, 3, 0, 27, 3, 1, 3, 1, 1};
        for (int what = 0; what < settings.length; what++) {
            int w = what;
            due("setting " + w, () -> x.setting(w), settings[w]);
        }
        fails("setting -1", () -> x.setting(-1), ARGUMENT);
        fails("setting 10", () -> x.setting(10), ARGUMENT);
        fails("setting, greatest", () -> x.setting(HIGH), ARGUMENT);
        read(XYZ);
        x.take(AAC);
        x.setOut(0, true);
        due("covered letters of a row that is left out", () -> x.setting(7), 9);
    }

    private static void promise9Row() {
        read(XYZ + "row w ab;");
        x.choose(0, 2);
        x.setOut(1, true);
        x.setChanges(0);
        x.take(AAC);
        int[][] rows = {{5, 3, 2, 0, 0}, {5, 0, NONE, 1, 0}, {3, 0, NONE, 0, 7}, {2, 0, NONE, 0, 0}};
        for (int row = 0; row < rows.length; row++) {
            for (int what = 0; what < 5; what++) {
                int r = row;
                int w = what;
                due("row " + r + " " + w, () -> x.row(r, w), rows[r][w]);
            }
        }
        fails("row 4", () -> x.row(4, 0), INDEX);
        fails("row -1", () -> x.row(-1, 0), INDEX);
        fails("row, what 5", () -> x.row(0, 5), ARGUMENT);
        fails("row, what -1", () -> x.row(0, -1), ARGUMENT);
        fails("row 4, what 5", () -> x.row(4, 5), INDEX);
    }

    private static void promises10To12LetterWordAtDiffer() {
        read(XYZ);
        due("letter", () -> x.letter(0, 2), 2);
        due("the last letter", () -> x.letter(0, 4), 1);
        fails("letter 5", () -> x.letter(0, 5), INDEX);
        fails("letter -1", () -> x.letter(0, -1), INDEX);
        fails("letter of row 3", () -> x.letter(3, 0), INDEX);
        due("wordAt", () -> x.wordAt(0, 0), ABC);
        due("wordAt the last", () -> x.wordAt(0, 2), CAB);
        due("wordAt behind the last", () -> x.wordAt(0, 3), NONE);
        due("wordAt -1", () -> x.wordAt(0, -1), NONE);
        due("wordAt the least", () -> x.wordAt(0, LOW), NONE);
        due("wordAt the greatest", () -> x.wordAt(0, HIGH), NONE);
        fails("wordAt of row -1", () -> x.wordAt(-1, 0), INDEX);
        fails("wordAt of row 3", () -> x.wordAt(3, 0), INDEX);
        due("differ", () -> x.differ(ABC, AAC), 1);
        due("differ in all", () -> x.differ(ABC, BCA), 3);
        due("differ in none", () -> x.differ(26, 26), 0);
        fails("differ 27", () -> x.differ(27, 0), INDEX);
        fails("differ other 27", () -> x.differ(0, 27), INDEX);
        fails("differ -1", () -> x.differ(-1, 0), INDEX);
        fails("differ other -1", () -> x.differ(0, -1), INDEX);
        x.take(AAC);
        due("a covered letter", () -> x.letter(2, 2), 2);
        due("wordAt a covered place", () -> x.wordAt(2, 0), NONE);
        x.setOut(1, true);
        due("wordAt in a row that is left out", () -> x.wordAt(1, 0), NONE);
        due("letter of a row that is left out", () -> x.letter(1, 0), 1);
    }

    private static void promises13To17Distances() {
        read(XYZ + "row w ab;");
        due("distance", () -> x.distance(0, AAC), 1);
        due("distance 0", () -> x.distance(1, ABC), 0);
        due("distance without places", () -> x.distance(3, ABC), 3);
        due("score", () -> x.score(ABC), 4);
        due("score of aaa", () -> x.score(0), 8);
        due("having", () -> x.having(ABC), 7);
        due("having bca", () -> x.having(BCA), 3);
        due("having bbb", () -> x.having(13), 0);
        due("closest", () -> x.closest(0, CAB), 2);
        due("closest of several", () -> x.closest(0, 0), 0);
        due("closest with the fewest", () -> x.closest(1, AAC), 2);
        due("closest without places", () -> x.closest(3, 0), NONE);
        due("spread", () -> x.spread(ABC), 3);
        x.setOut(3, true);
        due("spread of three rows", () -> x.spread(ABC), 1);
        due("spread, most in the first row", () -> x.spread(18 + 6 + 2), 2);
        due("spread, most in the last row", () -> x.spread(BCA), 3);
        due("spread of aaa", () -> x.spread(0), 2);
        due("distance of a row that is left out", () -> x.distance(3, 0), NONE);
        due("score of three rows", () -> x.score(ABC), 1);
        x.setOut(0, true);
        due("having without one", () -> x.having(ABC), 6);
        due("closest of a row that is left out", () -> x.closest(0, ABC), NONE);
        x.setOut(1, true);
        x.setOut(2, true);
        due("spread without rows", () -> x.spread(0), NONE);
        due("score without rows", () -> x.score(26), 0);
        due("having without rows", () -> x.having(26), 0);
        x.setOut(3, false);
        x.setChanges(3);
        due("a row without places has all", () -> x.having(26), 8);
        for (int word : new int[] {27, -1, LOW, HIGH}) {
            fails("distance " + word, () -> x.distance(0, word), INDEX);
            fails("score " + word, () -> x.score(word), INDEX);
            fails("having " + word, () -> x.having(word), INDEX);
            fails("closest " + word, () -> x.closest(0, word), INDEX);
            fails("spread " + word, () -> x.spread(word), INDEX);
        }
        fails("distance of row 4", () -> x.distance(4, 0), INDEX);
        fails("distance of row -1", () -> x.distance(-1, 0), INDEX);
        fails("closest of row 4", () -> x.closest(4, 0), INDEX);
        fails("closest of row -1", () -> x.closest(-1, 0), INDEX);
    }

    private static void promises18And19Shared() {
        read(XYZ + "row w aacaac;");
        due("shared", () -> x.shared(0, 1), 3);
        due("shared by none", () -> x.shared(0, 2), 0);
        due("shared with itself", () -> x.shared(3, 3), 3);
        due("shared once", () -> x.shared(2, 3), 1);
        int[] words = {ABC, BCA, CAB, NONE};
        for (int i = 0; i < words.length; i++) {
            int k = i;
            due("sharedAt " + k, () -> x.sharedAt(1, 0, k), words[k]);
        }
        due("sharedAt -1", () -> x.sharedAt(0, 1, -1), NONE);
        due("sharedAt the least", () -> x.sharedAt(0, 1, LOW), NONE);
        due("sharedAt the greatest", () -> x.sharedAt(0, 1, HIGH), NONE);
        due("sharedAt of itself", () -> x.sharedAt(3, 3, 0), AAC);
        for (int row : new int[] {4, -1}) {
            fails("shared " + row, () -> x.shared(row, 0), INDEX);
            fails("shared with " + row, () -> x.shared(0, row), INDEX);
            fails("sharedAt " + row, () -> x.sharedAt(row, 0, 0), INDEX);
            fails("sharedAt with " + row, () -> x.sharedAt(0, row, 0), INDEX);
        }
        x.setOut(0, true);
        due("shared with a row that is left out", () -> x.shared(1, 0), 0);
        due("sharedAt with a row that is left out", () -> x.sharedAt(1, 0, 0), NONE);
        read("row w aaaa;");
        due("the same word twice", () -> x.shared(0, 0), 1);
    }

    private static void promises20And21Hits() {
        read(XYZ);
        due("hits", () -> x.hits(ABC), 3);
        int[][] hits = {{0, 0, 0}, {1, 2, 0}, {2, 0, 1}};
        for (int i = 0; i < hits.length; i++) {
            for (int what = 0; what < 3; what++) {
                int k = i;
                int w = what;
                due("hit " + k + " " + w, () -> x.hit(ABC, k, w), hits[k][w]);
            }
        }
        due("hits of none", () -> x.hits(13), 0);
        fails("hit 3", () -> x.hit(ABC, 3, 0), INDEX);
        fails("hit 3, what 3", () -> x.hit(ABC, 3, 3), INDEX);
        fails("hit -1", () -> x.hit(ABC, -1, 0), INDEX);
        fails("hit, what 3", () -> x.hit(ABC, 2, 3), ARGUMENT);
        fails("hit, what -1", () -> x.hit(ABC, 0, -1), ARGUMENT);
        fails("hit of word 27", () -> x.hit(27, 0, 5), INDEX);
        fails("hits of word 27", () -> x.hits(27), INDEX);
        fails("hits of word -1", () -> x.hits(-1), INDEX);
        x.setChanges(0);
        due("hits without changes", () -> x.hits(ABC), 2);
        x.setOut(0, true);
        due("hits without a row", () -> x.hits(ABC), 1);
        due("the first of them", () -> x.hit(ABC, 0, 0), 1);
        x.setChanges(3);
        due("hits of all", () -> x.hits(13), 4);
    }

    private static void promises22To24Kinds() {
        read(XYZ);
        due("kinds", () -> x.kinds(), 4);
        due("timesOf", () -> x.timesOf(CAB), 2);
        due("timesOf one", () -> x.timesOf(AAC), 1);
        due("timesOf none", () -> x.timesOf(0), 0);
        due("commonest", () -> x.commonest(), ABC);
        x.shared(2, 2);
        due("timesOf behind shared", () -> x.timesOf(CAB), 2);
        x.shared(2, 2);
        due("commonest behind shared", () -> x.commonest(), ABC);
        x.shared(2, 2);
        due("kinds behind shared", () -> x.kinds(), 4);
        fails("timesOf 27", () -> x.timesOf(27), INDEX);
        fails("timesOf -1", () -> x.timesOf(-1), INDEX);
        x.setChanges(0);
        x.take(ABC);
        due("kinds without covered ones", () -> x.kinds(), 1);
        due("commonest then", () -> x.commonest(), AAC);
        x.setOut(2, true);
        due("kinds of none", () -> x.kinds(), 0);
        due("commonest of none", () -> x.commonest(), NONE);
        due("timesOf without places", () -> x.timesOf(AAC), 0);
        read("row a abcdabc;row b cdab;");
        due("times in a row and another", () -> x.timesOf(6), 2);
    }

    // ---- the search, the order

    private static void promise25Best() {
        read(XYZ);
        int[] numbers = {ABC, 1, 12, 5};
        for (int what = 0; what < 4; what++) {
            int w = what;
            due("best " + w, () -> x.best(w), numbers[w]);
        }
        fails("best 4", () -> x.best(4), ARGUMENT);
        fails("best -1", () -> x.best(-1), ARGUMENT);
        x.setOut(2, true);
        due("best without z", () -> x.best(1), 0);
        x.undo();
        due("best again", () -> x.best(1), 1);
        x.take(ABC);
        due("best without places", () -> x.best(0), 0);
        due("its score", () -> x.best(1), 9);
        read("letters 2;length 2;row a bb;");
        due("best bb", () -> x.best(0), 3);
        due("all are asked", () -> x.best(2), 6);
        due("one is cut", () -> x.best(3), 1);
        read("letters 2;length 2;row a aa;row b bb;");
        due("the lowest of several", () -> x.best(0), 0);
        due("asked", () -> x.best(2), 6);
        due("cut at equal bounds", () -> x.best(3), 3);
    }

    private static void promises26And27BoundMostHad() {
        read(XYZ + "row w ab;");
        int[] bounds = {1, 3, 4};
        for (int m = 1; m <= 3; m++) {
            int k = m;
            due("bound of " + k, () -> x.bound(ABC, k), bounds[k - 1]);
        }
        due("bound of aa", () -> x.bound(AAC, 2), 4);
        fails("bound of 0", () -> x.bound(ABC, 0), ARGUMENT);
        fails("bound of 4", () -> x.bound(ABC, 4), ARGUMENT);
        fails("bound of word 27", () -> x.bound(27, 0), INDEX);
        fails("bound of word -1", () -> x.bound(-1, 1), INDEX);
        x.setOut(3, true);
        due("bound without w", () -> x.bound(ABC, 3), 1);

        due("mostHad, first in order", () -> x.mostHad(0), ABC);
        due("mostHad by", () -> x.mostHad(1), 3);
        x.setChanges(0);
        due("mostHad by two", () -> x.mostHad(1), 2);
        x.setChanges(3);
        due("all had", () -> x.mostHad(0), ABC);
        fails("mostHad 2", () -> x.mostHad(2), ARGUMENT);
        fails("mostHad -1", () -> x.mostHad(-1), ARGUMENT);
        read("changes 0;letters 2;length 2;row a aa;row b aa;row c aa;row d ab;row e ab;row f bb;row g bb;");
        due("more rows go before a better score", () -> x.mostHad(0), 0);
        due("these rows", () -> x.mostHad(1), 3);
        due("the best word", () -> x.best(0), 1);
        read("");
        due("mostHad without rows", () -> x.mostHad(0), 0);
        due("mostHad by none", () -> x.mostHad(1), 0);
    }

    private static void promises28And29Without() {
        read(XYZ);
        due("without x", () -> x.scoreWithout(0), 1);
        due("without z", () -> x.scoreWithout(2), 0);
        due("outlier", () -> x.outlier(), 2);
        x.setOut(2, true);
        due("without z that is left out", () -> x.scoreWithout(2), 0);
        due("outlier of equal ones", () -> x.outlier(), 0);
        x.setOut(0, true);
        x.setOut(1, true);
        due("outlier of none", () -> x.outlier(), NONE);
        fails("without 3", () -> x.scoreWithout(3), INDEX);
        fails("without -1", () -> x.scoreWithout(-1), INDEX);
        // Left out, the row makes another word the best one, and that one's score counts.
        read("letters 2;length 2;row a aa;row b bb;");
        due("the best word without a", () -> x.scoreWithout(0), 0);
        due("the first of equal ones", () -> x.outlier(), 0);
        x.setOut(0, true);
        due("the present score", () -> x.scoreWithout(0), 0);
        read("letters 2;length 2;row a aa;row b bb;row c ab;");
        x.setOut(2, true);
        due("the present score of two", () -> x.scoreWithout(2), 2);
    }

    private static void promises30And31Order() {
        read(XYZ);
        int[] order = {ABC, AAC, CAB, 1, 8, BCA, 20};
        for (int i = 0; i < order.length; i++) {
            int k = i;
            due("ranked " + k, () -> x.ranked(k), order[k]);
            due("rankOf " + order[k], () -> x.rankOf(order[k]), k);
        }
        boolean[] isRanked = new boolean[27];
        for (int i = 0; i < 27; i++) {
            isRanked[x.ranked(i)] = true;
        }
        for (int w = 0; w < 27; w++) {
            CHECK.that("all words are ranked: " + w, isRanked[w]);
        }
        due("ranked 27", () -> x.ranked(27), NONE);
        due("ranked -1", () -> x.ranked(-1), NONE);
        due("ranked the least", () -> x.ranked(LOW), NONE);
        due("ranked the greatest", () -> x.ranked(HIGH), NONE);
        fails("rankOf 27", () -> x.rankOf(27), INDEX);
        fails("rankOf -1", () -> x.rankOf(-1), INDEX);
    }

    private static void promise32Second() {
        read(XYZ);
        due("second", () -> x.second(0), 0);
        due("its score", () -> x.second(1), 9);
        due("nothing is taken", () -> x.setting(8), 0);
        due("the best one stays", () -> x.best(0), ABC);
        x.setChanges(0);
        due("second without changes", () -> x.second(0), AAC);
        due("its score without changes", () -> x.second(1), 6);
        x.take(ABC);
        due("the best one then", () -> x.best(0), AAC);
        due("second then", () -> x.second(1), 9);
        x.take(AAC);
        due("the best one cannot be taken", () -> x.second(0), NONE);
        due("nor has it a score", () -> x.second(1), NONE);
        fails("second 2", () -> x.second(2), ARGUMENT);
        fails("second -1", () -> x.second(-1), ARGUMENT);
        x.setChanges(3);
        due("second of all", () -> x.second(0), 0);
        for (int k = 0; k < 4; k++) {
            x.take(0);
        }
        due("six are taken", () -> x.second(0), NONE);
    }

    // ---- profiles

    private static void promises33To36Profile() {
        read(XYZ);
        due("no common word", () -> x.common(), NONE);
        due("no agreement", () -> x.agreement(), 0);
        due("weight of one", () -> x.weight(2, 0), 1);
        x.choose(0, 0);
        x.choose(1, 2);
        due("weight", () -> x.weight(2, 0), 9);
        x.choose(2, 0);
        int[][] counts = {{3, 0, 0}, {1, 2, 0}, {0, 0, 3}};
        for (int at = 0; at < 3; at++) {
            for (int letter = 0; letter < 3; letter++) {
                int i = at;
                int k = letter;
                due("count " + i + " " + k, () -> x.count(i, k), counts[i][k]);
            }
        }
        x.weight(0, 0);
        due("count behind weight", () -> x.count(0, 0), 3);
        x.weight(0, 0);
        due("common behind weight", () -> x.common(), ABC);
        for (int wrong : new int[] {3, -1, LOW, HIGH}) {
            fails("count at " + wrong, () -> x.count(wrong, 0), INDEX);
            fails("count of " + wrong, () -> x.count(0, wrong), INDEX);
        }
        due("common", () -> x.common(), ABC);
        due("agreement", () -> x.agreement(), 8);
        due("weight without the own place", () -> x.weight(0, 0), 18);
        due("weight of another place", () -> x.weight(0, 1), 1);
        due("weight of no place", () -> x.weight(0, 3), 0);
        due("weight at -1", () -> x.weight(0, -1), 0);
        due("weight at the greatest", () -> x.weight(0, HIGH), 0);
        due("weight at the least", () -> x.weight(0, LOW), 0);
        fails("weight of row 3", () -> x.weight(3, 0), INDEX);
        fails("weight of row -1", () -> x.weight(-1, 0), INDEX);
        x.clear(2);
        x.choose(0, 1);
        due("the lowest letters of several", () -> x.common(), 3);
        x.setOut(2, true);
        due("weight in a row that is left out", () -> x.weight(2, 0), 0);
    }

    private static void promises37And38TryFrom() {
        read(XYZ + "row w ab;");
        x.choose(1, 1);
        x.choose(2, 0);
        int[] agreements = {6, 7, 8, NONE};
        for (int start = 0; start < 4; start++) {
            int s = start;
            due("tryFrom y " + s, () -> x.tryFrom(1, s), agreements[s]);
        }
        due("tryFrom x", () -> x.tryFrom(0, 1), 8);
        due("tryFrom z", () -> x.tryFrom(2, 0), 8);
        x.choose(0, 1);
        due("tryFrom z, whatever x chose", () -> x.tryFrom(2, 0), 8);
        due("tryFrom y 0, whatever x chose", () -> x.tryFrom(1, 0), 6);
        x.clear(0);
        due("tryFrom -1", () -> x.tryFrom(0, -1), NONE);
        due("tryFrom the greatest", () -> x.tryFrom(0, HIGH), NONE);
        due("tryFrom the least", () -> x.tryFrom(0, LOW), NONE);
        due("the chosen place stays", () -> x.row(1, 2), 1);
        due("no other is chosen", () -> x.setting(9), 2);
        due("bestStart y", () -> x.bestStart(1), 2);
        due("bestStart of equal ones", () -> x.bestStart(0), 0);
        due("bestStart without places", () -> x.bestStart(3), NONE);
        due("the chosen place still stays", () -> x.row(1, 2), 1);
        fails("tryFrom in row 4", () -> x.tryFrom(4, 0), INDEX);
        fails("tryFrom in row -1", () -> x.tryFrom(-1, 0), INDEX);
        fails("bestStart of row 4", () -> x.bestStart(4), INDEX);
        fails("bestStart of row -1", () -> x.bestStart(-1), INDEX);
        x.setOut(1, true);
        due("tryFrom in a row that is left out", () -> x.tryFrom(1, 0), NONE);
        due("bestStart of a row that is left out", () -> x.bestStart(1), NONE);
    }

    private static void promises39And40Shares() {
        read(XYZ);
        due("share of none", () -> x.agreementShare(), 0.0f);
        due("mean distance", () -> x.meanDistance(), 1.0 / 3.0);
        x.choose(0, 0);
        due("share of one", () -> x.agreementShare(), 1.0f);
        x.choose(1, 2);
        x.choose(2, 0);
        due("share", () -> x.agreementShare(), 8.0f / 9.0f);
        x.setOut(2, true);
        due("mean distance of two", () -> x.meanDistance(), 0.0);
        x.setOut(2, false);
        x.setOut(0, true);
        due("mean distance of two others", () -> x.meanDistance(), 0.5);
        x.setOut(1, true);
        x.setOut(2, true);
        due("mean distance of none", () -> x.meanDistance(), 0.0);
        read("length 4;row a abc;");
        due("mean distance without places", () -> x.meanDistance(), 4.0);
    }

    private static void promise41ImprovesToEnd() {
        read(XYZ);
        due("improvesToEnd", () -> x.improvesToEnd(50), 1);
        due("improvesToEnd of 1", () -> x.improvesToEnd(1), 1);
        due("improvesToEnd of 0", () -> x.improvesToEnd(0), NONE);
        due("nothing is chosen", () -> x.setting(9), 0);
        fails("improvesToEnd of 51", () -> x.improvesToEnd(51), ARGUMENT);
        fails("improvesToEnd of -1", () -> x.improvesToEnd(-1), ARGUMENT);
        x.improve(1);
        due("improvesToEnd behind improving", () -> x.improvesToEnd(0), 0);
        read("");
        due("improvesToEnd without rows", () -> x.improvesToEnd(0), 0);
    }

    // ---- changes

    private static void promises42And43ChooseClear() {
        read(XYZ);
        due("choose", () -> x.choose(0, 2), 3);
        due("chosen", () -> x.row(0, 2), 2);
        due("choose another", () -> x.choose(0, 1), 3);
        due("chosen then", () -> x.row(0, 2), 1);
        due("choose in y", () -> x.choose(1, 0), 6);
        for (int start : new int[] {3, -1, LOW, HIGH}) {
            fails("choose at " + start, () -> x.choose(0, start), ARGUMENT);
        }
        fails("choose in row 3", () -> x.choose(3, 9), INDEX);
        fails("choose in row -1", () -> x.choose(-1, 0), INDEX);
        due("clear", () -> x.clear(0), 1);
        due("cleared", () -> x.row(0, 2), NONE);
        fails("clear again", () -> x.clear(0), STATE);
        fails("clear row 3", () -> x.clear(3), INDEX);
        fails("clear row -1", () -> x.clear(-1), INDEX);
        x.setOut(0, true);
        fails("choose in a row that is left out", () -> x.choose(0, 0), ARGUMENT);
        x.take(AAC);
        fails("choose a covered place", () -> x.choose(2, 0), ARGUMENT);
    }

    private static void promises44And45BetterImprove() {
        read(XYZ + "row w ab;");
        due("better, all equal", () -> x.better(1), 0);
        x.choose(2, 0);
        x.clear(1);
        due("better", () -> x.better(1), 2);
        due("chosen", () -> x.row(1, 2), 2);
        due("better without places", () -> x.better(3), NONE);
        due("it can be undone", () -> x.undo() >= 0 && x.row(1, 2) == 2, true);
        x.setOut(0, true);
        fails("better a row that is left out", () -> x.better(0), STATE);
        fails("better row 4", () -> x.better(4), INDEX);
        fails("better row -1", () -> x.better(-1), INDEX);

        read(XYZ);
        due("improve at most once", () -> x.improve(1), 1);
        due("improved", () -> x.row(1, 2), 2);
        due("improve again", () -> x.improve(50), 1);
        x.undo();
        x.undo();
        due("improve to the end", () -> x.improve(50), 2);
        due("agreed", () -> x.agreement(), 8);
        x.setOut(0, true);
        due("improve without a row", () -> x.improve(50), 1);
        due("none is chosen of it", () -> x.row(0, 2), NONE);
        fails("improve 0", () -> x.improve(0), ARGUMENT);
        fails("improve 51", () -> x.improve(51), ARGUMENT);
        fails("improve -1", () -> x.improve(-1), ARGUMENT);
    }

    private static void promises46To49Take() {
        read(XYZ);
        x.choose(0, 2);
        x.choose(1, 0);
        x.setChanges(0);
        due("take", () -> x.take(AAC), 1);
        due("take of two rows", () -> x.take(BCA), 2);
        due("covered in x", () -> x.row(0, 4), 14);
        due("covered in y", () -> x.row(1, 4), 7);
        due("covered in z", () -> x.row(2, 4), 7);
        due("x is not chosen any more", () -> x.row(0, 2), NONE);
        due("y is not chosen any more", () -> x.row(1, 2), NONE);
        due("taken 0", () -> x.taken(0), AAC);
        due("taken 1", () -> x.taken(1), BCA);
        for (int i : new int[] {2, 6, -1, LOW, HIGH}) {
            due("taken " + i, () -> x.taken(i), NONE);
        }
        due("why not a word that no row has", () -> x.whyNotTake(ABC), 2);
        fails("take a word that no row has", () -> x.take(ABC), STATE);
        fails("take 27", () -> x.take(27), INDEX);
        fails("take -1", () -> x.take(-1), INDEX);
        fails("why not 27", () -> x.whyNotTake(27), INDEX);
        fails("why not -1", () -> x.whyNotTake(-1), INDEX);
        fails("take the best that no row has", () -> x.takeBest(), STATE);
        x.setChanges(3);
        due("why not", () -> x.whyNotTake(ABC), 0);
        due("rows without places have it", () -> x.take(ABC), 3);
        due("nothing is covered", () -> x.setting(7), 9);
        due("take the same again", () -> x.take(ABC), 3);
        due("take the best", () -> x.takeBest(), 0);
        due("take the sixth", () -> x.take(26), 3);
        due("taken 5", () -> x.taken(5), 26);
        due("why not a seventh", () -> x.whyNotTake(ABC), 1);
        x.setChanges(0);
        due("the lowest reason", () -> x.whyNotTake(ABC), 1);
        fails("take a seventh", () -> x.take(ABC), STATE);
        fails("take the best as a seventh", () -> x.takeBest(), STATE);
        fails("take 27 as a seventh", () -> x.take(27), INDEX);

        read(XYZ);
        x.setChanges(0);
        due("takeBest", () -> x.takeBest(), ABC);
        due("takeBest again", () -> x.takeBest(), AAC);
        x.undo();
        due("takeBest behind undo", () -> x.takeBest(), AAC);

        read(XYZ);
        x.choose(0, 2);
        x.setOut(1, true);
        due("take with changes", () -> x.take(AAC), 2);
        due("the closest place is covered", () -> x.row(0, 4), 7);
        due("a row that is left out is not", () -> x.row(1, 4), 0);
        due("a place that it shares a letter with", () -> x.row(0, 2), NONE);
        read("letters 2;changes 1;row a aaabbbaaa;row b bbb;");
        x.choose(0, 6);
        due("the least start of several", () -> x.take(0), 1);
        due("covered", () -> x.row(0, 4), 7);
        due("a place that stays is still chosen", () -> x.row(0, 2), 6);
    }

    private static void promises50And51OutChanges() {
        read(XYZ);
        x.choose(0, 0);
        x.choose(1, 0);
        due("setOut", () -> x.setOut(0, true), 1);
        due("its place is chosen no more", () -> x.row(0, 2), NONE);
        due("others are", () -> x.row(1, 2), 0);
        due("setOut of another", () -> x.setOut(2, true), 2);
        fails("setOut again", () -> x.setOut(0, true), STATE);
        fails("setOut false of a row that is in", () -> x.setOut(1, false), STATE);
        fails("setOut of row 3", () -> x.setOut(3, true), INDEX);
        fails("setOut of row -1", () -> x.setOut(-1, false), INDEX);
        due("setOut false", () -> x.setOut(0, false), 1);
        due("its place stays not chosen", () -> x.row(0, 2), NONE);
        due("setChanges", () -> x.setChanges(3), 1);
        due("setChanges again", () -> x.setChanges(0), 3);
        due("changes", () -> x.setting(3), 0);
        due("setChanges to the same", () -> x.setChanges(0), 0);
        fails("setChanges 4", () -> x.setChanges(4), ARGUMENT);
        fails("setChanges -1", () -> x.setChanges(-1), ARGUMENT);
    }

    // ---- reports, undo, a saved state

    private static void promises52And53Report() {
        read(XYZ + "row abcdefgh aacabcabb;");
        x.choose(0, 1);
        x.setOut(1, true);
        x.setChanges(0);
        x.take(AAC);
        x.choose(3, 3);
        CHECK.due("report", reported(), "x aBCAb\n-y bcabc\nz ***\nabcdefgh ***ABCabb\n");
        due("its size", () -> x.report(), 8 + 9 + 6 + 19);
        due("the last byte", () -> x.reportByte(41), 10);
        due("reportByte behind the last", () -> x.reportByte(42), INDEX);
        due("reportByte -1", () -> x.reportByte(-1), INDEX);
        due("reportByte, least", () -> x.reportByte(LOW), INDEX);
        x.clear(0);
        due("the latest report stays", () -> x.reportByte(3), (int) 'B');
        x.undo();
        due("undo leaves the report", () -> x.reportByte(3), (int) 'B');
        read("");
        due("an empty report", () -> x.report(), 0);
        due("no byte of it", () -> x.reportByte(0), INDEX);
        StringBuilder text = new StringBuilder();
        for (char c = 'a'; c <= 'j'; c++) {
            text.append("row abcdefg").append(c).append(' ').append("abcd".repeat(7)).append("ab;");
        }
        read(text.toString());
        for (int r = 0; r < 10; r++) {
            x.setOut(r, true);
        }
        due("the longest report", () -> x.report(), 410);
        due("its last byte", () -> x.reportByte(409), 10);
    }

    private static void promise54Undo() {
        read(XYZ);
        String[] states = new String[9];
        Check.Call[] calls = {() -> x.choose(0, 1), () -> x.clear(0), () -> x.better(1), () -> x.improve(9),
            () -> x.take(AAC), () -> x.setOut(1, true), () -> x.setChanges(3), () -> x.takeBest()};
        for (int k = 0; k < calls.length; k++) {
            states[k] = seen();
            calls[k].answer();
            CHECK.that("call " + k + " changes something", !seen().equals(states[k]));
        }
        x.whyNotTake(0);
        x.taken(0);
        for (int k = 1; k <= 6; k++) {
            int left = 6 - k;
            due("undo " + k, () -> x.undo(), left);
            CHECK.due("as before " + k, seen(), states[calls.length - k]);
        }
        due("nothing more to undo", () -> x.undo(), NONE);
        CHECK.due("it changes nothing", seen(), states[2]);

        String before = seen();
        x.best(0);
        run("changes 0;take abc;out z;");
        x.best(0);
        run("clear x;");
        due("undo a script that did nothing", () -> x.undo(), 1);
        due("undo a script as a whole", () -> x.undo(), 0);
        CHECK.due("as before the script", seen(), before);
        due("best as before the script", () -> x.best(0), ABC);
        feed("$");
        due("a wrong script", () -> x.runScript(), ARGUMENT);
        x.setChanges(2);
        feed("row");
        due("undo", () -> x.undo(), 0);
        due("the error stays", () -> x.errorCode(), 1);
        due("the buffer stays", () -> x.truncate(3), 3);
    }

    private static void promise54UndoEach() {
        read("changes 0;" + XYZ);
        x.choose(1, 0);
        Check.Call[] calls = {() -> x.choose(0, 1), () -> x.clear(1), () -> x.better(1), () -> x.improve(9),
            () -> x.take(AAC), () -> x.setOut(1, true), () -> x.setChanges(3), () -> x.takeBest(), () -> run("out z;")};
        for (int k = 0; k < calls.length; k++) {
            x.save();
            x.restore();
            String before = seen() + x.best(0) + x.best(1) + x.second(0);
            calls[k].answer();
            due("undo of call " + k, () -> x.undo(), 0);
            CHECK.due("as before call " + k, seen() + x.best(0) + x.best(1) + x.second(0), before);
        }
        x.setChanges(0);
        due("a change that changes nothing can be undone", () -> x.undo(), 0);
        x.report();
        x.save();
        x.best(0);
        x.undo();
        due("calls that change nothing cannot", () -> x.undo(), NONE);
    }

    private static void promises55And56Save() {
        read(XYZ);
        due("restore nothing", () -> x.restore(), STATE);
        x.choose(1, 0);
        x.setOut(0, true);
        x.take(AAC);
        String kept = seen();
        due("save", () -> x.save(), 3);
        due("what can be undone stays", () -> x.undo(), 2);
        feed("letters 2;length 2;row other ab;");
        x.readText();
        x.choose(0, 0);
        x.report();
        feed("x");
        due("a wrong text", () -> x.readText(), ARGUMENT);
        feed("row a");
        due("restore", () -> x.restore(), 3);
        due("the report stays", () -> x.reportByte(0), (int) 'o');
        CHECK.due("as it was saved", seen(), kept);
        due("the error stays", () -> x.errorCode(), 1);
        due("the buffer stays", () -> x.truncate(5), 5);
        due("undo is forgotten", () -> x.undo(), NONE);
        due("best is of the restored text", () -> x.best(1), x.score(x.best(0)));
        x.setOut(0, false);
        x.undo();
        x.setChanges(3);
        due("restore again", () -> x.restore(), 3);
        CHECK.due("it stays saved", seen(), kept);
        feed("row a ab;row b ab;");
        x.readText();
        due("save another", () -> x.save(), 2);
        x.setChanges(0);
        due("restore the other", () -> x.restore(), 2);
        due("the other's changes", () -> x.setting(3), 1);
        CHECK.due("the other's rows", reported(), "a ab\nb ab\n");
    }

    /** Nothing of an earlier text is left. */
    private static void theNextText() {
        read("letters 2;length 2;changes 3;row a aab;row b bab;row c aba;");
        due("differ in two letters of two", () -> x.differ(0, 3), 2);
        due("differ in one of two", () -> x.differ(2, 3), 1);
        x.choose(2, 0);
        x.take(1);
        x.setOut(0, true);
        due("asked", () -> x.best(2) > 0, true);
        feed("row a aab;");
        due("the next text", () -> x.readText(), 1);
        int[] settings = {1, 4, 3, 1, 64, 1, 0, 0, 0, 0};
        for (int what = 0; what < settings.length; what++) {
            int w = what;
            due("next text: setting " + w, () -> x.setting(w), settings[w]);
        }
        due("next text: taken", () -> x.taken(0), NONE);
        due("next text: best", () -> x.best(0), 1);
        due("next text: score", () -> x.best(1), 0);
        due("next text: asked", () -> x.best(2), 12);
        due("next text: cut", () -> x.best(3), 8);
        fails("next text: letter", () -> x.letter(1, 0), INDEX);
        fails("next text: row", () -> x.row(1, 0), INDEX);
        fails("next text: wordAt", () -> x.wordAt(1, 0), INDEX);
        fails("next text: closest", () -> x.closest(1, 0), INDEX);
        fails("next text: setOut", () -> x.setOut(1, true), INDEX);
    }

    private static void theLargestText() {
        StringBuilder text = new StringBuilder("length 6;");
        for (char c = 'a'; c <= 'j'; c++) {
            text.append("row ").append(c).append(' ').append("a".repeat(30)).append(";");
        }
        read(text.toString());
        int bbbbbb = 1365;
        due("asked of the largest", () -> x.best(2), 24);
        due("cut of the largest", () -> x.best(3), 18);
        due("score of the largest", () -> x.score(bbbbbb), 60);
        due("places of the largest", () -> x.setting(5), 250);
        due("times of the largest", () -> x.timesOf(0), 250);
        due("kinds of the largest", () -> x.kinds(), 1);
        due("the first of the largest", () -> x.ranked(0), 0);
        due("the first with the greatest score", () -> x.ranked(4096 - 729), bbbbbb);
        due("its rank", () -> x.rankOf(bbbbbb), 4096 - 729);
        due("the last of the largest", () -> x.ranked(4095), 4095);
        due("its rank, too", () -> x.rankOf(4095), 4095);
        due("behind the last", () -> x.ranked(4096), NONE);
        due("improve the largest", () -> x.improve(50), 2);
        due("the greatest weight", () -> x.weight(9, 24), 1000000);
        due("the greatest agreement", () -> x.agreement(), 60);
        due("having of the largest", () -> x.having(1), 1023);
        due("hits of the largest", () -> x.hits(1), 250);
        due("the last hit's row", () -> x.hit(1, 249, 0), 9);
        due("the last hit's start", () -> x.hit(1, 249, 1), 24);
        due("take of the largest", () -> x.takeBest(), 0);
        due("cover the last letters", () -> run("best;best;best;best;"), "4");
        due("all are covered", () -> x.row(9, 4), (1 << 30) - 1);
        due("best without places", () -> x.best(1), 60);
    }
}
