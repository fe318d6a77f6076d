/** The boundary cases of changes, reports, undo and what is saved: sections 5 and 7, promises 42 to 56. */
final class ChangeBoundaries extends Boundaries {
    ChangeBoundaries(Check check, Sentences sentences) {
        super(check, sentences);
    }

    private void refusedRows(String call, int rows, java.util.function.IntFunction<Step> step) {
        for (int row : new int[] {-1, rows, 31, 32, LOW, HIGH}) {
            refused(call + " " + row, step.apply(row), INDEX);
        }
    }

    private void refusedWords(String call, int words, java.util.function.IntFunction<Step> step) {
        for (int word : new int[] {-1, words, LOW, HIGH}) {
            refused(call + " " + word, step.apply(word), INDEX);
        }
    }

    /** Behind each change, one undo leaves all as it was. */
    private void undone(String change, Step step) {
        same(change, y -> 0, y -> stepAndUndo(y, step));
    }

    private static int stepAndUndo(HiddenWords y, Step step) {
        step.on(y);
        return y.undo();
    }

    private static String undoneTo(HiddenWords y) {
        return y.undo() + " " + y.setting(3);
    }

    // ---- section 5

    void section5Take() {
        section(5, "To take a word means: in each row that has it, the place at which the word differs by the fewest letters"
                + " (of several the one with the least start) is covered: all its letters.");
        text("letters 2;changes 1;row a aabaaabbb;row b bba;row c aab;");
        // a: aab aba baa aaa aab abb bbb; b and c: bba and aab.
        due("aaa", y -> y.take(0), 2);
        due("the fewest letters", y -> y.row(0, 4), 7 << 3);
        due("a row that has it not", y -> y.row(1, 4), 0);
        due("one letter differs", y -> y.row(2, 4), 7);
        due("aab once more", y -> y.take(1), 1);
        due("the least start of those that are left", y -> y.row(0, 4), 63);
        text("letters 2;changes 0;row a aabbaab;", y -> y.take(1));
        due("the least start of two", y -> y.row(0, 4), 7);
        x.take(1);
        due("then the other", y -> y.row(0, 4), 7 + (7 << 4));
        text("letters 2;changes 0;row a abababa;", y -> y.take(2));
        due("those that lie across it are no places", y -> y.row(0, 1), 2);
        x.take(2);
        due("aba again", y -> y.row(0, 4), 7 + (7 << 4));
        text("length 6;changes 0;row a " + "b".repeat(24) + "aaaaaa;", y -> y.take(0));
        due("the last letters of the longest row", y -> y.row(0, 4), 63 << 24);
        text("letters 2;changes 3;row a bbb;row b ab;");
        due("all letters differ", y -> y.take(0), 2);
        due("the place is covered", y -> y.row(0, 4), 7);
        due("a row without a place has nothing covered", y -> y.row(1, 4), 0);
    }

    void section5AtMost6() {
        section(5, "At most 6 words can be taken.");
        text("changes 3;row a ab;");
        for (int k = 1; k <= 6; k++) {
            due("take " + k, y -> y.take(0), 1);
            due("taken " + k, y -> y.setting(8), k);
        }
        due("take 7", y -> y.take(0), STATE);
        due("six were taken", y -> y.setting(8), 6);
        due("takeBest as a seventh", y -> y.takeBest(), STATE);
        x.undo();
        due("five, then the best one", y -> y.takeBest(), 0);
        due("six again", y -> y.setting(8), 6);
    }

    void section5NoPlaceAnyMore() {
        section(5, "Where a chosen place is no place any more, none is chosen.");
        for (int start = 0; start <= 6; start++) {
            int s = start;
            // ccc stands at 3; the places at 1 to 5 have a letter of it.
            text("changes 0;row a aaacccaaa;row b aaa;", y -> y.choose(0, s), y -> y.choose(1, 0), y -> y.take(42));
            due("chosen at " + s, y -> y.row(0, 2), s == 0 || s == 6 ? s : NONE);
            due("another row's place stays", y -> y.row(1, 2), 0);
        }
    }

    void section5Reasons() {
        section(5, "(Reasons why a word cannot be taken: 1 six words are taken, 2 no row has it. 0: none.)");
        text("changes 3;row a ab;");
        due("none", y -> y.whyNotTake(63), 0);
        for (int k = 0; k < 5; k++) {
            x.take(0);
        }
        due("five are taken", y -> y.whyNotTake(63), 0);
        x.setChanges(2);
        due("no row has it", y -> y.whyNotTake(63), 2);
        x.setChanges(3);
        x.take(0);
        due("six are taken", y -> y.whyNotTake(63), 1);
        x.setChanges(2);
        due("both", y -> y.whyNotTake(63), 1);
        text("");
        due("without rows", y -> y.whyNotTake(0), 2);
        text("letters 2;row a aaa;");
        due("as many changes", y -> y.whyNotTake(1), 0);
        due("one change more", y -> y.whyNotTake(3), 2);
        x.setOut(0, true);
        due("left out", y -> y.whyNotTake(0), 2);
    }

    // ---- section 7

    void section7Latest6() {
        section(7, "Each call of a method below \"changes\" and each call of runScript() (as a whole, also if no command was"
                + " done) that was done without an exception can be undone, the latest first; the latest 6 of them are"
                + " kept.");
        section(7, "Ahead of the calls `choose`, `clear`, `better`, `improve`, `take`, `takeBest`, `whyNotTake`, `taken`,"
                + " `setOut`, `setChanges` the interface says: ---- changes.");
        for (int count = 0; count <= 8; count++) {
            text(XYZ);
            for (int k = 1; k <= count; k++) {
                x.setChanges(k % 4);
            }
            int kept = Math.min(count, 6);
            for (int k = 1; k <= kept; k++) {
                int before = count - k;
                due("undo " + k + " of " + count, y -> undoneTo(y), (kept - k) + " " + (before == 0 ? 1 : before % 4));
            }
            due("nothing is left of " + count, y -> y.undo(), NONE);
            due("nothing changes then", y -> y.setting(3), count <= 6 ? 1 : (count - 6) % 4);
        }
        text(XYZ, y -> y.choose(1, 1));
        undone("choose", y -> y.choose(0, 1));
        undone("choose the same", y -> y.choose(1, 1));
        undone("clear", y -> y.clear(1));
        undone("better", y -> y.better(0));
        undone("improve", y -> y.improve(50));
        undone("take", y -> y.take(AAC));
        undone("takeBest", y -> y.takeBest());
        undone("setOut", y -> y.setOut(1, true));
        undone("setChanges", y -> y.setChanges(3));
        undone("setChanges to the same", y -> y.setChanges(1));
        undone("a script", y -> y.truncate(0) + run(y, "choose x 2;out z;take abc;changes 0;"));
        undone("a script that ends early", y -> y.truncate(0) + run(y, "changes 3;clear x;changes 0;"));
        undone("a script of no command", y -> run(y, ""));
        undone("a script whose first command cannot be done", y -> run(y, "clear x;"));
        undone("a script of forty commands", y -> run(y, "repeat 20(choose x 2;changes 3;clear x;);"));

        text(XYZ);
        for (int k = 0; k < 7; k++) {
            due("empty script " + k, y -> run(y, ""), 0);
        }
        due("six of seven", y -> y.undo(), 5);
        text(XYZ, y -> y.whyNotTake(0), y -> y.taken(0), y -> y.report(), y -> y.save(), y -> y.second(0),
                y -> y.tryFrom(0, 0), y -> y.improvesToEnd(50), y -> y.feed(0, 0, 0, 0, 0));
        due("calls that change nothing of it", y -> y.undo(), NONE);
    }

    void section7AllIsAsBefore() {
        section(7, "All is as before it then but the report, the buffer, the error and what is saved.");
        text(XYZ, y -> y.setChanges(0), y -> y.choose(0, 2), y -> y.choose(2, 0));
        String before = seen(x) + x.second(0) + x.ranked(3) + x.common();
        x.take(CAB);
        x.second(0);
        x.report();
        x.save();
        x.feed(0x24202020, 0, 0, 0, 0);
        due("an error", y -> y.runScript(), ARGUMENT);
        x.feed(0x20202020, 0, 0, 0, 0);
        due("undo", y -> y.undo(), 3);
        that("all is as before", before.equals(seen(x) + x.second(0) + x.ranked(3) + x.common()));
        due("the report stays", y -> latestReport(y), "x ab***\ny b***c\nz AAC\n");
        due("the error stays", y -> y.errorCode(), 1);
        due("its position stays", y -> y.errorPosition(), 0);
        due("the buffer stays", y -> sizeOf(y), 20);
        due("what is saved stays", y -> y.restore(), 3);
        due("as it was when it was saved", y -> reported(y), "x ab***\ny b***c\nz AAC\n");
    }

    void section7Forget() {
        section(7, "readText() and restore() forget them.");
        text(XYZ, y -> y.setChanges(2), y -> y.setChanges(3), y -> read(y, XYZ));
        due("behind readText", y -> y.undo(), NONE);
        text(XYZ, y -> y.setChanges(2), y -> read(y, ""));
        due("behind an empty text", y -> y.undo(), NONE);
        text(XYZ, y -> y.setChanges(2), y -> y.save(), y -> y.setChanges(3), y -> y.restore());
        due("behind restore", y -> y.undo(), NONE);
        due("nothing changes then", y -> y.setting(3), 2);
        x.setChanges(0);
        due("what comes then can be undone", y -> y.undo(), 0);
        text(XYZ, y -> y.setChanges(2), y -> feed(y, "row", "\0"));
        due("a text with an error", y -> y.readText(), ARGUMENT);
        due("forgets nothing", y -> y.undo(), 0);
        text(XYZ, y -> y.setChanges(2));
        due("nothing was saved", y -> y.restore(), STATE);
        due("restore forgets nothing then", y -> y.undo(), 0);
    }

    void section7FirstListed() {
        section(7, "If several exceptions apply to a call, the one that is listed first is thrown.");
        text("letters 2;row a aaa;row b ab;", y -> y.setOut(1, true));
        refused("row: no row, no what", y -> y.row(2, 5), INDEX);
        refused("hit: no word, no what", y -> y.hit(8, 0, 3), INDEX);
        refused("hit: no place, no what", y -> y.hit(0, 1, 3), INDEX);
        refused("bound: no word, no m", y -> y.bound(8, 0), INDEX);
        refused("choose: no row, no place", y -> y.choose(2, -1), INDEX);
        refused("clear: no row", y -> y.clear(2), INDEX);
        refused("better: no row", y -> y.better(2), INDEX);
        refused("setOut: no row", y -> y.setOut(2, false), INDEX);
        x.setChanges(3);
        text("letters 2;changes 3;row a ab;", y -> run(y, "repeat 6(take aaa;);"));
        refused("take: no word, six are taken", y -> y.take(8), INDEX);
        refused("take: six are taken", y -> y.take(7), STATE);
    }

    void section7ChangesNothing() {
        section(7, "A call that throws an exception changes nothing, unless something else is said.");
        // A full past, a saved state, a report, an error and something in the buffer.
        text(XYZ, y -> y.choose(0, 0), y -> y.save(), y -> y.setChanges(0), y -> y.choose(1, 1), y -> y.take(AAC),
                y -> y.report(), y -> y.setOut(2, true), y -> y.improve(2), y -> y.choose(0, 2),
                y -> Check.answerOf(() -> read(y, "letters 5;")), y -> feed(y, "row a ab;", "\0"));
        refused("setting", y -> y.setting(10), ARGUMENT);
        refused("row", y -> y.row(0, 5), ARGUMENT);
        refused("letter", y -> y.letter(0, 5), INDEX);
        refused("hit", y -> y.hit(ABC, 9, 0), INDEX);
        refused("best", y -> y.best(4), ARGUMENT);
        refused("bound", y -> y.bound(ABC, 4), ARGUMENT);
        refused("mostHad", y -> y.mostHad(2), ARGUMENT);
        refused("second", y -> y.second(2), ARGUMENT);
        refused("count", y -> y.count(3, 0), INDEX);
        refused("improvesToEnd", y -> y.improvesToEnd(51), ARGUMENT);
        refused("choose", y -> y.choose(2, 0), ARGUMENT);
        refused("clear", y -> y.clear(2), STATE);
        refused("better", y -> y.better(2), STATE);
        refused("improve", y -> y.improve(51), ARGUMENT);
        refused("take", y -> y.take(AAC), STATE);
        refused("setOut", y -> y.setOut(2, true), STATE);
        refused("setOut false", y -> y.setOut(0, false), STATE);
        refused("setChanges", y -> y.setChanges(4), ARGUMENT);
        refused("reportByte", y -> y.reportByte(22), INDEX);
        refused("truncate", y -> y.truncate(10), ARGUMENT);
        begin(y -> y.setChanges(2), y -> y.report(), y -> feed(y, " ".repeat(590), "\0"));
        refused("takeBest", y -> y.takeBest(), STATE);
        refused("restore", y -> y.restore(), STATE);
        refused("feed", y -> y.feed(1, 2, 3, 4, 5), STATE);
    }

    void section7RowAndWord() {
        section(7, "The parameters row and word are numbers of an existing row and of a word; otherwise"
                + " IndexOutOfBoundsException is thrown.");
        begin();
        for (int row : new int[] {-1, 0, 1, 10, LOW, HIGH}) {
            due("no row is there: row", y -> y.row(row, 0), INDEX);
            due("letter", y -> y.letter(row, 0), INDEX);
            due("wordAt", y -> y.wordAt(row, 0), INDEX);
            due("distance", y -> y.distance(row, 0), INDEX);
            due("closest", y -> y.closest(row, 0), INDEX);
            due("shared", y -> y.shared(row, row), INDEX);
            due("sharedAt", y -> y.sharedAt(row, row, 0), INDEX);
            due("scoreWithout", y -> y.scoreWithout(row), INDEX);
            due("weight", y -> y.weight(row, 0), INDEX);
            due("tryFrom", y -> y.tryFrom(row, 0), INDEX);
            due("bestStart", y -> y.bestStart(row), INDEX);
            due("choose", y -> y.choose(row, 0), INDEX);
            due("clear", y -> y.clear(row), INDEX);
            due("better", y -> y.better(row), INDEX);
            due("setOut", y -> y.setOut(row, true), INDEX);
            due("setOut false", y -> y.setOut(row, false), INDEX);
        }
        due("nothing can be undone", y -> y.undo(), NONE);
        for (String text : new String[] {"letters 2;length 2;", "letters 3;length 5;", "length 6;"}) {
            text(text + "row a abababab;");
            int words = x.setting(4);
            for (int word : new int[] {-1, words, words + 1, LOW, HIGH}) {
                wordCalls(word, INDEX);
            }
            wordCalls(words - 1, null);
            wordCalls(0, null);
        }
    }

    /** Each call with a word throws this; null: it does not throw IndexOutOfBoundsException. */
    private void wordCalls(int word, String exception) {
        x.setChanges(3);
        Step[] calls = {y -> y.differ(word, 0), y -> y.differ(0, word), y -> y.distance(0, word), y -> y.score(word),
            y -> y.having(word), y -> y.closest(0, word), y -> y.spread(word), y -> y.hits(word), y -> y.timesOf(word),
            y -> y.bound(word, 1), y -> y.rankOf(word), y -> y.whyNotTake(word), y -> y.take(word)};
        for (int k = 0; k < calls.length; k++) {
            Step call = calls[k];
            if (exception != null) {
                due("word " + word + ", call " + k, call, exception);
            } else {
                that("word " + word + ", call " + k, !Check.answerOf(() -> call.on(x)).equals(INDEX));
            }
        }
    }

    void section7Sets() {
        section(7, "Sets are bit masks in which bit k stands for number k.");
        text("length 2;changes 0;row a " + "a".repeat(28) + "bc;", y -> y.take(6), y -> y.take(0));
        due("the letters 0, 1, 28 and 29", y -> y.row(0, 4), 1 + 2 + (1 << 28) + (1 << 29));
        text(tenRows("abc").replace("row e abc", "row e ddd"), y -> y.setChanges(0));
        due("row 4", y -> y.having(63), 16);
        due("the others", y -> y.having(6), 1023 - 16);
    }

    void section7None() {
        section(7, "The constants: `NONE = -1`: There is no such value.");
        begin();
        due("NONE", y -> HiddenWords.NONE, -1);
        due("the answer of a call", y -> y.undo(), -1);
    }

    /** FaceTest looks at all calls; here the two lists stand whose calls can, or cannot, be undone as the first says. */
    void section7Lists() {
        section(7, "Ahead of the calls `feed`, `truncate`, `readText`, `runScript`, `errorCode`, `errorPosition` the"
                + " interface says: ---- texts.");
        section(7, "Ahead of the calls `setting`, `row`, `letter`, `wordAt`, `differ`, `distance`, `score`, `having`,"
                + " `closest`, `spread`, `shared`, `sharedAt`, `hits`, `hit`, `kinds`, `timesOf`, `commonest` the interface"
                + " says: ---- rows, words.");
        section(7, "Ahead of the calls `best`, `bound`, `mostHad`, `scoreWithout`, `outlier`, `ranked`, `rankOf`, `second`"
                + " the interface says: ---- the search, the order.");
        section(7, "Ahead of the calls `count`, `common`, `agreement`, `weight`, `tryFrom`, `bestStart`, `agreementShare`,"
                + " `meanDistance`, `improvesToEnd` the interface says: ---- profiles.");
        section(7, "Ahead of the calls `report`, `reportByte`, `undo`, `save`, `restore` the interface says: ---- reports,"
                + " undo, a saved state.");
        text(XYZ, y -> y.choose(0, 0), y -> y.undo());
        Step[] calls = {y -> y.feed(0, 0, 0, 0, 0), y -> y.truncate(0), y -> y.errorCode(), y -> y.errorPosition(),
            y -> y.setting(0), y -> y.row(0, 0), y -> y.letter(0, 0), y -> y.wordAt(0, 0), y -> y.differ(0, 1),
            y -> y.distance(0, 0), y -> y.score(0), y -> y.having(0), y -> y.closest(0, 0), y -> y.spread(0),
            y -> y.shared(0, 1), y -> y.sharedAt(0, 1, 0), y -> y.hits(ABC), y -> y.hit(ABC, 0, 0), y -> y.kinds(),
            y -> y.timesOf(0), y -> y.commonest(), y -> y.best(0), y -> y.bound(0, 1), y -> y.mostHad(0),
            y -> y.scoreWithout(0), y -> y.outlier(), y -> y.ranked(0), y -> y.rankOf(0), y -> y.second(0),
            y -> y.count(0, 0), y -> y.common(), y -> y.agreement(), y -> y.weight(0, 0), y -> y.tryFrom(0, 0),
            y -> y.bestStart(0), y -> y.agreementShare(), y -> y.meanDistance(), y -> y.improvesToEnd(9),
            y -> y.report(), y -> y.reportByte(0), y -> y.save()};
        String before = seen(x);
        for (int k = 0; k < calls.length; k++) {
            calls[k].on(x);
            due("call " + k + " cannot be undone", y -> y.undo(), NONE);
        }
        that("nor did they change anything", before.equals(seen(x)));
    }

    // ---- promises 42 to 51

    void promise42Choose() {
        promise(42, "Chooses a place of a row, in place of an earlier one.");
        promise(42, "Returns the agreement then.");
        text(XYZ);
        due("the first start", y -> y.choose(0, 0), 3);
        due("the last start", y -> y.choose(0, 2), 3);
        due("the same again", y -> y.choose(0, 2), 3);
        due("one is chosen", y -> y.setting(9), 1);
        due("of another row", y -> y.choose(1, 1), 6);
        due("of the last row", y -> y.choose(2, 0), 7);
    }

    void promise42NoPlace() {
        promise(42, "Throws `IllegalArgumentException` if it is no place");
        text(XYZ, y -> y.choose(0, 1));
        for (int start : new int[] {-1, 3, 29, 30, 31, 32, LOW, HIGH, HIGH - 2}) {
            refused("start " + start, y -> y.choose(0, start), ARGUMENT);
        }
        refusedRows("row", 3, r -> y -> y.choose(r, 0));
        refusedRows("row, and no place,", 3, r -> y -> y.choose(r, -1));
        text(XYZ, y -> y.setOut(0, true), y -> y.take(AAC));
        refused("left out", y -> y.choose(0, 0), ARGUMENT);
        refused("covered", y -> y.choose(2, 0), ARGUMENT);
        refused("a letter of it is covered", y -> y.choose(1, 0), ARGUMENT);
        text("row a ab;");
        refused("a short row", y -> y.choose(0, 0), ARGUMENT);
    }

    void promise43Clear() {
        promise(43, "No place of a row is chosen then.");
        promise(43, "Returns the start of the place that was chosen.");
        promise(43, "Throws `IllegalStateException` if none was");
        text(XYZ, y -> y.choose(0, 0), y -> y.choose(1, 2));
        due("the first start", y -> y.clear(0), 0);
        due("none is chosen", y -> y.row(0, 2), NONE);
        due("the last start", y -> y.clear(1), 2);
        due("none at all", y -> y.setting(9), 0);
        text(XYZ, y -> y.choose(0, 0), y -> y.clear(0));
        refused("cleared already", y -> y.clear(0), STATE);
        refused("never chosen", y -> y.clear(1), STATE);
        refusedRows("row", 3, r -> y -> y.clear(r));
        text(XYZ, y -> y.choose(0, 0), y -> y.choose(2, 0), y -> y.setOut(0, true), y -> y.take(AAC));
        refused("left out", y -> y.clear(0), STATE);
        refused("covered", y -> y.clear(2), STATE);
    }

    void promise44Better() {
        promise(44, "Betters a row.");
        promise(44, "Returns the start of the place that is chosen then; NONE if the row has no place.");
        text(XYZ + "row w ab;", y -> y.choose(0, 2));
        due("the second place weighs the most", y -> y.better(1), 1);
        due("is chosen", y -> y.row(1, 2), 1);
        due("the only place", y -> y.better(2), 0);
        due("no place", y -> y.better(3), NONE);
        due("none is chosen", y -> y.row(3, 2), NONE);
        x.undo();
        x.take(AAC);
        due("covered", y -> y.better(2), NONE);
    }

    void promise44LeftOut() {
        promise(44, "Throws `IllegalStateException` if the row is left out");
        text(XYZ, y -> y.setOut(1, true));
        refused("left out", y -> y.better(1), STATE);
        refusedRows("row", 3, r -> y -> y.better(r));
        due("another row", y -> y.better(0), 0);
        x.setOut(1, false);
        due("not any more", y -> y.better(1), 2);
    }

    void promise45Improve() {
        promise(45, "Improves until improving changed nothing.");
        promise(45, "- `most`: 1 to 50");
        promise(45, "Returns how often it improved (also the time that changed nothing), at most so often.");
        text(XYZ);
        due("at most once", y -> y.improve(1), 1);
        due("the time that changes nothing", y -> y.improve(50), 1);
        for (int most = 1; most <= 4; most++) {
            int n = most;
            text(XYZ);
            due("at most " + n, y -> y.improve(n), n < 2 ? n : 2);
            due("the end", y -> reported(y), "x ABCab\ny bcABC\nz AAC\n");
        }
        text(XYZ);
        due("at most 50", y -> y.improve(50), 2);
        text("");
        due("without rows", y -> y.improve(50), 1);
        due("without rows, once", y -> y.improve(1), 1);
        text("row a ab;");
        due("without places", y -> y.improve(50), 1);
    }

    void promise45FiftyTimes() {
        promise(45, "Returns how often it improved (also the time that changed nothing), at most so often.");
        text(FAR, y -> y.choose(0, FAR_START));
        due("a way that goes on", y -> y.improve(50), 50);
        due("behind 50 times", y -> y.agreement(), FAR_AGREEMENTS[1]);
        due("the rest, and the time that changes nothing", y -> y.improve(50), FAR_TIMES - 50 + 1);
        due("at the end", y -> y.improve(50), 1);
        text(FAR, y -> y.choose(0, FAR_START), y -> y.improve(FAR_TIMES - 50));
        due("50 times that change something", y -> y.improve(50), 50);
        due("the time that changes nothing is another one", y -> y.improvesToEnd(0), 0);
        text(FAR, y -> y.choose(0, FAR_START), y -> y.improve(FAR_TIMES - 49));
        due("49 times that change something, and one that does not", y -> y.improve(50), 50);
        text(FAR, y -> y.choose(0, FAR_START), y -> y.improve(FAR_TIMES - 48));
        due("48 times that change something, and one that does not", y -> y.improve(50), 49);
        text(FAR);
        due("the same in a script", y -> run(y, "choose a 16;improve 50;"), 2);
        due("behind 50 times in a script", y -> y.agreement(), FAR_AGREEMENTS[1]);
    }

    void promise45OutOfRange() {
        promise(45, "Throws `IllegalArgumentException` if most is out of range");
        text(XYZ, y -> y.choose(0, 1));
        for (int most : new int[] {0, -1, 51, LOW, HIGH}) {
            refused("most " + most, y -> y.improve(most), ARGUMENT);
        }
        text("");
        refused("most 0 without rows", y -> y.improve(0), ARGUMENT);
    }

    void promise46Take() {
        promise(46, "Takes a word.");
        promise(46, "Returns the number of rows that had it.");
        text(tenRows("abc").replace("row j abc", "row j dd"));
        due("all but one", y -> y.take(6), 9);
        text(tenRows("abc"), y -> y.setOut(0, true));
        due("all that are not left out", y -> y.take(6), 9);
        text("changes 3;" + tenRows("ab"));
        due("all of no place", y -> y.take(63), 10);
        text(tenRows("abc").replace("row j abc", "row j ddd"));
        due("one", y -> y.take(63), 1);
        due("is taken", y -> y.taken(0), 63);
    }

    void promise46Reason() {
        promise(46, "Throws `IllegalStateException` if there is a reason against it");
        text(XYZ, y -> y.setChanges(0), y -> y.choose(0, 1));
        refused("no row has it", y -> y.take(0), STATE);
        refusedWords("take", 27, w -> y -> y.take(w));
        text("letters 2;changes 3;row a ab;", y -> run(y, "repeat 6(take bbb;);"));
        refused("six are taken", y -> y.take(7), STATE);
        refusedWords("take behind six", 8, w -> y -> y.take(w));
        text("letters 2;changes 3;row a ab;", y -> run(y, "repeat 5(take bbb;);"));
        due("five are taken", y -> y.take(7), 1);
        text("");
        refused("without rows", y -> y.take(0), STATE);
    }

    void promise47TakeBest() {
        promise(47, "Takes the best word.");
        promise(47, "Returns this word.");
        promise(47, "Throws `IllegalStateException` if there is a reason against it");
        text(XYZ, y -> y.setChanges(0));
        due("the best", y -> y.takeBest(), ABC);
        due("the next", y -> y.takeBest(), AAC);
        due("no row has the next", y -> y.best(0), 0);
        due("it is not taken", y -> y.takeBest(), STATE);
        text(XYZ, y -> y.setChanges(0), y -> y.takeBest(), y -> y.takeBest());
        refused("no row has it", y -> y.takeBest(), STATE);
        text("letters 2;changes 3;row a ab;", y -> run(y, "repeat 5(best;);"));
        due("five are taken", y -> y.takeBest(), 0);
        text("letters 2;changes 3;row a ab;", y -> run(y, "repeat 6(best;);"));
        refused("six are taken", y -> y.takeBest(), STATE);
        text("length 6;row a dddddd;");
        due("the greatest word", y -> y.takeBest(), 4095);
        text("");
        refused("without rows", y -> y.takeBest(), STATE);
    }

    void promise48WhyNot() {
        promise(48, "Returns the lowest reason why a word cannot be taken; 0 if there is none.");
        text("letters 2;changes 2;row a ab;row b aaa;");
        dueEach("words", -1, w -> y -> y.whyNotTake(w), INDEX, 0, 0, 0, 0, 0, 0, 0, 2, INDEX);
        x.setChanges(3);
        for (int k = 0; k < 6; k++) {
            x.take(7);
        }
        dueEach("six are taken", -1, w -> y -> y.whyNotTake(w), INDEX, 1, 1, 1, 1, 1, 1, 1, 1, INDEX);
        x.setChanges(0);
        dueEach("both", -1, w -> y -> y.whyNotTake(w), INDEX, 1, 1, 1, 1, 1, 1, 1, 1, INDEX);
        refusedWords("whyNotTake", 8, w -> y -> y.whyNotTake(w));
    }

    void promise49Taken() {
        promise(49, "Returns the word that was taken as number i, from 0; NONE if there is none such.");
        text("changes 3;row a ab;");
        dueEach("nothing was taken", -1, i -> y -> y.taken(i), NONE, NONE, NONE);
        for (int k = 0; k < 6; k++) {
            x.take(60 - k);
        }
        dueEach("six", -1, i -> y -> y.taken(i), NONE, 60, 59, 58, 57, 56, 55, NONE, NONE);
        due("the least", y -> y.taken(LOW), NONE);
        due("the greatest", y -> y.taken(HIGH), NONE);
        x.undo();
        dueEach("five", 3, i -> y -> y.taken(i), 57, 56, NONE, NONE);
    }

    void promise50SetOut() {
        promise(50, "Leaves a row out (its chosen place is chosen no more), or not.");
        promise(50, "Returns how many rows are left out then.");
        text(tenRows("abc"), y -> y.improve(1));
        for (int r = 0; r < 10; r++) {
            int row = r;
            due("row " + r, y -> y.setOut(row, true), r + 1);
            due("chosen of " + r, y -> y.row(row, 2), NONE);
            due("others", y -> y.setting(9), 9 - r);
        }
        for (int r = 0; r < 10; r++) {
            int row = r;
            due("row " + r + " again", y -> y.setOut(row, false), 9 - r);
            due("none is chosen of " + r, y -> y.row(row, 2), NONE);
        }
        text(XYZ, y -> y.take(AAC), y -> y.setOut(2, true), y -> y.setOut(2, false));
        due("what was covered is", y -> y.row(2, 4), 7);
    }

    void promise50Already() {
        promise(50, "Throws `IllegalStateException` if it is so already");
        text(XYZ, y -> y.choose(0, 0), y -> y.setOut(2, true));
        refused("out already", y -> y.setOut(2, true), STATE);
        refused("in already", y -> y.setOut(0, false), STATE);
        refusedRows("row", 3, r -> y -> y.setOut(r, true));
        refusedRows("row, false", 3, r -> y -> y.setOut(r, false));
    }

    void promise51SetChanges() {
        promise(51, "Sets the changes.");
        promise(51, "- `changes`: 0 to 3");
        promise(51, "Returns how many there were.");
        promise(51, "Throws `IllegalArgumentException` if changes is out of range");
        text(XYZ);
        int before = 1;
        for (int changes : new int[] {0, 3, 3, 1, 0}) {
            due("setChanges " + changes, y -> y.setChanges(changes), before);
            due("changes", y -> y.setting(3), changes);
            before = changes;
        }
        text(XYZ, y -> y.setChanges(2));
        for (int changes : new int[] {-1, 4, LOW, HIGH}) {
            refused("changes " + changes, y -> y.setChanges(changes), ARGUMENT);
        }
    }

    // ---- promises 52 to 56

    void promise52Report() {
        promise(52, "Writes a report, in place of the one before: for each row a minus sign if it is left out, its name, a"
                + " space, and its letters, those that are covered as an asterisk, those of its chosen place as capital"
                + " letters; and a line feed. @return the number of its bytes");
        text("");
        due("without rows", y -> y.report(), 0);
        text("length 2;changes 0;row a ab;row abcdefgh abcdabcd;");
        due("its size", y -> y.report(), 5 + 18);
        due("two rows", y -> latestReport(y), "a ab\nabcdefgh abcdabcd\n");
        x.choose(0, 0);
        x.choose(1, 0);
        due("the first letters", y -> reported(y), "a AB\nabcdefgh ABcdabcd\n");
        x.choose(1, 6);
        due("the last letters", y -> reported(y), "a AB\nabcdefgh abcdabCD\n");
        x.take(1);
        due("covered", y -> reported(y), "a **\nabcdefgh **cdabCD\n");
        x.take(11);
        due("the least start, not the chosen one", y -> reported(y), "a **\nabcdefgh ****abCD\n");
        x.take(11);
        due("the chosen one", y -> reported(y), "a **\nabcdefgh ****ab**\n");
        x.setOut(0, true);
        x.setOut(1, true);
        due("left out", y -> reported(y), "-a **\n-abcdefgh ****ab**\n");
        StringBuilder longest = new StringBuilder();
        for (char c = 'a'; c <= 'j'; c++) {
            longest.append("row aaaaaaa").append(c).append(' ').append("abcd".repeat(7)).append("dd;");
        }
        text(longest.toString());
        due("ten of the longest", y -> y.report(), 400);
        x.setOut(0, true);
        due("and a minus sign", y -> y.report(), 401);
        due("the last letter", y -> y.reportByte(399), (int) 'd');
        due("the last line feed", y -> y.reportByte(400), 10);
        due("behind it", y -> y.reportByte(401), INDEX);
        read(x, "");
        due("an empty one in place of it", y -> y.report(), 0);
        due("nothing is left of it", y -> y.reportByte(0), INDEX);
    }

    void promise53ReportByte() {
        promise(53, "- `i`: index of a byte, from 0");
        promise(53, "Returns this byte of the latest report.");
        promise(53, "Throws `IndexOutOfBoundsException` if there is no such byte, or there was no report");
        text("row a dcba;", y -> y.choose(0, 1), y -> y.setOut(0, true), y -> y.report(), y -> y.setOut(0, false));
        dueEach("byte", -1, i -> y -> y.reportByte(i), INDEX, 45, 97, 32, 100, 99, 98, 97, 10, INDEX);
        for (int i : new int[] {-1, 8, LOW, HIGH}) {
            refused("byte " + i, y -> y.reportByte(i), INDEX);
        }
        x.report();
        dueEach("byte of the next", 0, i -> y -> y.reportByte(i), 97, 32, 100, 99, 98, 97, 10, INDEX);
        text("row a dcba;");
        refused("there was no report", y -> y.reportByte(0), INDEX);
        text("", y -> y.report());
        refused("the report is empty", y -> y.reportByte(0), INDEX);
    }

    void promise54Undo() {
        promise(54, "Undoes the latest call that can be undone. @return the number of calls that can still be undone; NONE,"
                + " and nothing changes, if there is none");
        text(XYZ);
        same("nothing to undo", y -> 0, y -> y.undo());
        for (int k = 1; k <= 8; k++) {
            x.setChanges(k % 4);
        }
        for (int k = 5; k >= 0; k--) {
            due("still " + k, y -> y.undo(), k);
        }
        due("none", y -> y.undo(), NONE);
        due("none again", y -> y.undo(), NONE);
        due("the two oldest stay done", y -> y.setting(3), 2);
        due("a change", y -> y.setChanges(3), 2);
        due("it can be undone", y -> y.undo(), 0);
        text(XYZ, y -> y.setChanges(2), y -> y.undo());
        same("behind an undo of all", y -> 0, y -> y.undo());
    }

    void promise55Save() {
        promise(55, "Saves all but the buffer, the error, the report, what can be undone and what is saved, in place of an"
                + " earlier one. @return the number of rows");
        begin();
        due("no rows", y -> y.save(), 0);
        read(x, tenRows("abc"));
        due("ten rows", y -> y.save(), 10);
        read(x, "");
        due("in place of the earlier one", y -> y.restore(), 10);
        Step[] steps = {y -> y.setChanges(3), y -> y.choose(0, 1), y -> y.setOut(1, true), y -> y.take(AAC)};
        text("letters 3;length 2;row x abcab;row y bcabc;", steps);
        String saved = seen(x);
        x.save();
        due("what can be undone stays", y -> y.undo(), 3);
        x.report();
        feed(x, "row", "\0");
        due("an error", y -> y.readText(), ARGUMENT);
        x.feed(0, 0, 0, 0, 0);
        due("restore", y -> y.restore(), 2);
        that("all is as it was saved", saved.equals(seen(x)));
        due("the error stays", y -> y.errorCode(), 1);
        due("its position stays", y -> y.errorPosition(), 3);
        due("the buffer stays", y -> sizeOf(y), 20);
        due("the report stays", y -> y.reportByte(0), (int) 'x');
        due("nothing can be undone", y -> y.undo(), NONE);
    }

    void promise56Restore() {
        promise(56, "Restores what was saved, which stays.");
        promise(56, "Returns the number of rows then.");
        promise(56, "Throws `IllegalStateException` if nothing was saved");
        begin(y -> y.setChanges(2), y -> y.report(), y -> feed(y, "row a ab;", "\0"));
        refused("nothing was saved", y -> y.restore(), STATE);
        text(XYZ, y -> y.setChanges(2), y -> y.setChanges(3));
        refused("behind a text", y -> y.restore(), STATE);
        begin(y -> y.save());
        due("an empty state", y -> y.restore(), 0);
        read(x, XYZ);
        due("readText leaves it", y -> y.restore(), 0);
        due("no rows", y -> y.setting(0), 0);
        text(XYZ, y -> y.setChanges(0), y -> y.take(AAC), y -> y.choose(1, 1), y -> y.save());
        for (int k = 0; k < 3; k++) {
            due("restore " + k, y -> y.restore(), 3);
            due("as it was saved " + k, y -> reported(y), "x abcab\ny bCABc\nz ***\n");
            due("what was taken " + k, y -> y.taken(0), AAC);
            x.setChanges(3);
            x.take(0);
            x.setOut(0, true);
            read(x, "changes 3;row q abcd;");
            x.take(60);
            due("what is taken of another text " + k, y -> y.taken(0), 60);
        }
    }
}
