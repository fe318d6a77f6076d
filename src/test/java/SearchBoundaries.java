/** The boundary cases of the search and of the order: section 3 and promises 25 to 32. */
final class SearchBoundaries extends Boundaries {
    /** Places: none, aba 2, abb 3 and bba 6. */
    private static final String SHORT = "letters 2;length 3;changes 0;row p ab;row q aba;row r abba;";

    SearchBoundaries(Check check, Sentences sentences) {
        super(check, sentences);
    }

    /** The best word, its score, how many beginnings are asked, and how many of them are cut. */
    private void found(String text, int word, int score, int asked, int cut) {
        text(text);
        dueEach(text + " - best", 0, what -> y -> y.best(what), word, score, asked, cut);
    }

    // ---- section 3

    void section3LetterByLetter() {
        section(3, "It goes through beginnings of words, letter by letter.");
        found("letters 2;length 2;", 0, 0, 4, 2);
        found("letters 4;length 2;", 0, 0, 8, 6);
        found("letters 2;length 6;", 0, 0, 12, 6);
        found("letters 4;length 6;", 0, 0, 24, 18);
        found("", 0, 0, 12, 9);
    }

    void section3Bound() {
        section(3, "The bound of a beginning of m letters is the sum, over all rows that are not left out, of the least"
                + " number of letters by which it differs from the first m letters of the word at a place (m, if the row"
                + " has no place).");
        text(SHORT);
        dueEach("of aaa", 1, m -> y -> y.bound(0, m), 1, 4, 6);
        dueEach("of bbb", 1, m -> y -> y.bound(7, m), 2, 3, 6);
        x.setOut(0, true);
        dueEach("without p, of aaa", 1, m -> y -> y.bound(0, m), 0, 2, 3);
        x.setOut(1, true);
        x.setOut(2, true);
        dueEach("without rows", 1, m -> y -> y.bound(7, m), 0, 0, 0);
        x.setOut(0, false);
        dueEach("without a place", 1, m -> y -> y.bound(7, m), 1, 2, 3);
        // Not the last letter of a row, but the first one of a word at a place counts.
        text("letters 2;length 2;row a aab;");
        due("no word at a place begins with b", y -> y.bound(2, 1), 1);
        text("length 6;" + tenRows("a".repeat(30)));
        dueEach("the greatest", 1, m -> y -> y.bound(4095, m), 10, 20, 30, 40, 50, 60);
        dueEach("the least", 1, m -> y -> y.bound(0, m), 0, 0, 0, 0, 0, 0);
    }

    void section3Asks() {
        section(3, "The search asks the beginning a, then, as said below, those that go on with it, then b, and so on.");
        // a, aa, ab, b, ba, bb: were b asked ahead of aa, all the same; but were b's words asked first, only four.
        found("letters 2;length 2;row a bb;", 3, 0, 6, 1);
        found("letters 2;length 2;row a aa;", 0, 0, 4, 2);
    }

    void section3Cut() {
        section(3, "If the bound of a beginning that is asked is not less than the best score that was found so far (if any"
                + " was), it is cut.");
        // aa is 2; ab with just 2 is cut, b with 1 is not; then ba and bb with just 2 are.
        found("letters 2;length 2;row a aa;row b bb;", 0, 2, 6, 3);
        // ab with 1, one less than aa, is not cut; ba with just 1 is; bb with 0 is not.
        found("letters 2;length 2;row a bb;", 3, 0, 6, 1);
        // b with 2, one more than aa, is cut.
        found("letters 2;length 2;row a aa;row b ab;", 0, 1, 4, 2);
        // Nothing was found ahead of aaa, so that it is not cut; of the others only whole words have as much.
        text("letters 2;length 3;row a ab;row b ba;");
        dueEach("without places, best", 0, what -> y -> y.best(what), 0, 6, 14, 7);
    }

    void section3Found() {
        section(3, "Otherwise, if it has L letters, it is the best word that was found so far, with its bound as the score;"
                + " otherwise the beginnings with one letter more are asked, in the order of this letter.");
        // a, aa 2, ab cut, ac 1, b cut, c, ca cut, cb cut, cc 0.
        found("letters 3;length 2;row a cc;", 8, 0, 9, 4);
        found("letters 2;length 2;row a ab;row b ba;", 0, 2, 6, 3);
    }

    // ---- promises 25 to 32

    void promise25Best() {
        promise(25, "- `what`: 0 the best word, 1 its score, 2 how many beginnings the search asks, 3 how many of these it"
                + " cuts");
        promise(25, "Returns this number.");
        text(XYZ, y -> y.setOut(0, true), y -> y.setOut(1, true), y -> y.setOut(2, true));
        dueEach("all rows are left out, best", 0, what -> y -> y.best(what), 0, 0, 9, 6);
        x.setOut(2, false);
        // a, aa, aaa 1, aab cut, aac 0, then ab, ac, b and c are cut.
        dueEach("z alone, best", 0, what -> y -> y.best(what), AAC, 0, 9, 5);
        text(XYZ);
        due("ahead of all changes", y -> y.best(0), ABC);
        Step[] changes = {y -> y.setOut(2, true), y -> y.undo(), y -> y.setOut(0, true), y -> y.take(AAC), y -> y.undo(),
            y -> y.save(), y -> y.setOut(1, true), y -> y.restore(), y -> y.setChanges(0),
            y -> run(y, "take aac;"), y -> y.undo(), y -> run(y, "best;out y;"), y -> read(y, "")};
        int[] best = {ABC, ABC, AAC, 0, AAC, AAC, AAC, AAC, AAC, ABC, AAC, 0, 0};
        int[] scores = {0, 1, 1, 6, 1, 1, 0, 1, 1, 3, 1, 3, 0};
        for (int k = 0; k < changes.length; k++) {
            changes[k].on(x);
            due("behind change " + k, y -> y.best(0), best[k]);
            due("its score behind change " + k, y -> y.best(1), scores[k]);
        }
        text("length 6;row a dddddd;");
        due("the last word", y -> y.best(0), 4095);
        due("its score", y -> y.best(1), 0);
        text("length 6;" + tenRows("ab"));
        due("without places", y -> y.best(0), 0);
        due("the greatest score", y -> y.best(1), 60);
    }

    void promise25OutOfRange() {
        promise(25, "Throws `IllegalArgumentException` if what is out of range");
        text(XYZ);
        for (int what : new int[] {-1, 4, LOW, HIGH}) {
            refused("best " + what, y -> y.best(what), ARGUMENT);
        }
        dueEach("best", 0, what -> y -> y.best(what), ABC, 1, 12, 5);
    }

    void promise26Bound() {
        promise(26, "- `m`: 1 to L");
        promise(26, "Returns the bound of the first m letters of a word (section 3).");
        text(XYZ);
        dueEach("of abc", 0, m -> y -> y.bound(ABC, m), ARGUMENT, 0, 1, 1, ARGUMENT);
        text("length 2;row a bb;");
        dueEach("of aa", 0, m -> y -> y.bound(0, m), ARGUMENT, 1, 2, ARGUMENT);
        text("length 6;row a bbbbbb;");
        dueEach("of aaaaaa", 0, m -> y -> y.bound(0, m), ARGUMENT, 1, 2, 3, 4, 5, 6, ARGUMENT);
    }

    void promise26OutOfRange() {
        promise(26, "Throws `IllegalArgumentException` if m is out of range");
        text(XYZ);
        for (int m : new int[] {0, -1, 4, LOW, HIGH}) {
            refused("m " + m, y -> y.bound(0, m), ARGUMENT);
            refused("m " + m + " of no word", y -> y.bound(27, m), INDEX);
        }
        for (int word : new int[] {-1, 27, LOW, HIGH}) {
            refused("word " + word, y -> y.bound(word, 1), INDEX);
        }
        due("the last word", y -> y.bound(26, 3), 6);
    }

    void promise27MostHad() {
        promise(27, "- `what`: 0 the word that the most rows have, of several the first one in order, 1 how many rows have"
                + " it");
        promise(27, "Returns this number.");
        text("");
        dueEach("without rows", 0, what -> y -> y.mostHad(what), 0, 0);
        text("letters 2;length 2;changes 0;row a bb;row b aa;row c bb;row d ab;");
        dueEach("bb twice", 0, what -> y -> y.mostHad(what), 3, 2);
        x.setOut(0, true);
        // aa, ab and bb once; aa is 0 + 2 + 1, ab 1 + 1 + 0, bb 2 + 0 + 1.
        dueEach("once each, of these the least score", 0, what -> y -> y.mostHad(what), 1, 1);
        text("letters 2;length 2;changes 0;row a bb;row b aa;");
        dueEach("of equal scores the lowest number", 0, what -> y -> y.mostHad(what), 0, 1);
        text("letters 2;length 3;changes 2;row a ab;");
        dueEach("no row has any", 0, what -> y -> y.mostHad(what), 0, 0);
        x.setChanges(3);
        dueEach("all have all", 0, what -> y -> y.mostHad(what), 0, 1);
        text("letters 2;length 2;changes 0;row a aa;row b ba;row c bb;row d bb;");
        dueEach("no changes", 0, what -> y -> y.mostHad(what), 3, 2);
        x.setChanges(1);
        dueEach("one change", 0, what -> y -> y.mostHad(what), 2, 4);
        x.undo();
        dueEach("no changes again", 0, what -> y -> y.mostHad(what), 3, 2);
        text("changes 0;" + tenRows("ddd"));
        dueEach("ten rows", 0, what -> y -> y.mostHad(what), 63, 10);
    }

    void promise27OutOfRange() {
        promise(27, "Throws `IllegalArgumentException` if what is out of range");
        text(XYZ);
        for (int what : new int[] {-1, 2, LOW, HIGH}) {
            refused("mostHad " + what, y -> y.mostHad(what), ARGUMENT);
        }
    }

    void promise28ScoreWithout() {
        promise(28, "Returns the score that the best word would have if a row was left out (the present one if it is left"
                + " out already).");
        text("letters 2;length 2;row a aa;row b ab;row c bb;");
        // aa 0 + 1 + 2, ab 1 + 0 + 1: the best one; bb 2 + 1 + 0.
        due("all rows", y -> y.best(1), 2);
        dueEach("without row", -1, r -> y -> y.scoreWithout(r), INDEX, 1, 2, 1, INDEX);
        x.setOut(1, true);
        due("the present one", y -> y.scoreWithout(1), 2);
        dueEach("without two rows", 0, r -> y -> y.scoreWithout(r), 0, 2, 0);
        x.setOut(0, true);
        due("the last row", y -> y.scoreWithout(2), 0);
        x.setOut(2, true);
        dueEach("all are left out", 0, r -> y -> y.scoreWithout(r), 0, 0, 0);
        text("length 6;" + tenRows("ab"));
        due("rows without a place", y -> y.scoreWithout(9), 54);
        for (int row : new int[] {-1, 10, 31, 32, LOW, HIGH}) {
            refused("row " + row, y -> y.scoreWithout(row), INDEX);
        }
    }

    void promise29Outlier() {
        promise(29, "Returns the row that is not left out for which scoreWithout() is least, the lowest one of several; NONE"
                + " without such rows.");
        text("");
        due("without rows", y -> y.outlier(), NONE);
        text(tenRows("aaa"));
        due("the lowest of ten", y -> y.outlier(), 0);
        text(tenRows("aaa").replace("row j aaa", "row j bbb"));
        due("the last of ten", y -> y.outlier(), 9);
        x.setOut(9, true);
        due("it is left out", y -> y.outlier(), 0);
        x.setOut(0, true);
        due("so is the first", y -> y.outlier(), 1);
        for (int r = 1; r < 8; r++) {
            x.setOut(r, true);
        }
        due("the only one", y -> y.outlier(), 8);
        x.setOut(8, true);
        due("none", y -> y.outlier(), NONE);
        text("row a aaa;row b ab;");
        due("a row without a place", y -> y.outlier(), 1);
    }

    void promise30Ranked() {
        promise(30, "Returns the word at place i, from 0, of all words in order; NONE if there is no such place.");
        text("letters 2;length 2;row a bb;");
        dueEach("ranked", -1, i -> y -> y.ranked(i), NONE, 3, 1, 2, 0, NONE);
        text("letters 4;length 6;");
        due("the first of the most words", y -> y.ranked(0), 0);
        due("the last of the most words", y -> y.ranked(4095), 4095);
        for (int i : new int[] {-1, 4096, LOW, HIGH}) {
            due("ranked " + i, y -> y.ranked(i), NONE);
        }
        text("length 6;" + tenRows("a".repeat(30)));
        due("the last one of the greatest score", y -> y.ranked(4095), 4095);
        due("the first one of the greatest score", y -> y.ranked(4095 - 728), 1365);
        due("the last one of the score below", y -> y.ranked(4095 - 729), 4092);
    }

    void promise31RankOf() {
        promise(31, "Returns at which place a word is in order.");
        text("letters 2;length 2;row a bb;");
        dueEach("rankOf", -1, w -> y -> y.rankOf(w), INDEX, 3, 1, 2, 0, INDEX);
        for (int word : new int[] {-1, 4, LOW, HIGH}) {
            refused("rankOf " + word, y -> y.rankOf(word), INDEX);
        }
        text("letters 4;length 6;");
        due("the last word", y -> y.rankOf(4095), 4095);
        refused("behind the last word", y -> y.rankOf(4096), INDEX);
    }

    void promise32Second() {
        promise(32, "- `what`: 0 the best word behind taking the best one, 1 its score then");
        promise(32, "Returns this number; NONE if the best word cannot be taken.");
        text("");
        dueEach("no row has it", 0, what -> y -> y.second(what), NONE, NONE);
        text("letters 2;length 3;changes 3;row a ab;");
        dueEach("a row without a place has it", 0, what -> y -> y.second(what), 0, 3);
        for (int k = 0; k < 5; k++) {
            x.take(7);
        }
        dueEach("five are taken", 0, what -> y -> y.second(what), 0, 3);
        x.take(7);
        dueEach("six are taken", 0, what -> y -> y.second(what), NONE, NONE);
        x.undo();
        dueEach("five again", 0, what -> y -> y.second(what), 0, 3);
        x.setChanges(2);
        dueEach("no row has any", 0, what -> y -> y.second(what), NONE, NONE);
        text("letters 2;length 2;changes 0;row a aa;row b bb;row c bb;");
        dueEach("bb first, then aa", 0, what -> y -> y.second(what), 0, 4);
        due("nothing is taken", y -> y.setting(8), 0);
        due("nothing is covered", y -> y.setting(7), 0);
        due("the best one stays", y -> y.best(0), 3);
        due("nothing can be undone", y -> y.undo(), NONE);
        text("letters 2;length 2;changes 0;row a aa;row b bb;");
        dueEach("aa first, then bb", 0, what -> y -> y.second(what), 3, 2);
        x.setOut(0, true);
        dueEach("bb alone, then none", 0, what -> y -> y.second(what), 0, 2);
        x.setOut(1, true);
        dueEach("all rows are left out", 0, what -> y -> y.second(what), NONE, NONE);
        x.undo();
        dueEach("one again", 0, what -> y -> y.second(what), 0, 2);
    }

    void promise32OutOfRange() {
        promise(32, "Throws `IllegalArgumentException` if what is out of range");
        text(XYZ);
        for (int what : new int[] {-1, 2, LOW, HIGH}) {
            refused("second " + what, y -> y.second(what), ARGUMENT);
        }
        text("");
        refused("second 2 where the best word cannot be taken", y -> y.second(2), ARGUMENT);
        refused("second -1 there", y -> y.second(-1), ARGUMENT);
    }
}
