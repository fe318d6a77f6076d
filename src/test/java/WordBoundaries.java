/** The boundary cases of words and places: section 2 and promises 8 to 24. */
final class WordBoundaries extends Boundaries {
    /** Two letters, words of two: aa 0, ab 1, ba 2, bb 3. Rows without a place, with one, with two. */
    private static final String SHORT = "letters 2;length 3;changes 0;row p ab;row q aba;row r abba;";

    WordBoundaries(Check check, Sentences sentences) {
        super(check, sentences);
    }

    /** A call with a word is refused for each number that is no word's. */
    private void refusedWords(String call, int words, java.util.function.IntFunction<Step> step) {
        for (int word : new int[] {-1, words, LOW, HIGH}) {
            refused(call + " " + word, step.apply(word), INDEX);
        }
        for (int word : new int[] {0, words - 1}) {
            Step s = step.apply(word);
            that(call + " " + word + " is a word", !Check.answerOf(() -> s.on(x)).equals(INDEX));
        }
    }

    /** A call with a row is refused for each number that is no row's. */
    private void refusedRows(String call, int rows, java.util.function.IntFunction<Step> step) {
        for (int row : new int[] {-1, rows, 31, 32, LOW, HIGH}) {
            refused(call + " " + row, step.apply(row), INDEX);
        }
        for (int row : new int[] {0, rows - 1}) {
            Step s = step.apply(row);
            that(call + " " + row + " is a row", !Check.answerOf(() -> s.on(x)).equals(INDEX));
        }
    }

    // ---- section 2

    void section2Length() {
        section(2, "All words considered here have as many letters as \"length\" tells, L in what follows.");
        text("length 2;row a abcd;");
        due("16 words", y -> y.setting(4), 16);
        due("ab", y -> y.wordAt(0, 0), 1);
        text("length 6;row a abcdab;");
        due("4096 words", y -> y.setting(4), 4096);
        due("abcdab", y -> y.wordAt(0, 0), 256 + 2 * 64 + 3 * 16 + 1);
    }

    void section2LetterNumbers() {
        section(2, "Letters have the numbers 0 (a), 1 and so on.");
        text("row q abcd;");
        dueEach("letter", 0, i -> y -> y.letter(0, i), 0, 1, 2, 3, INDEX);
    }

    void section2WordNumbers() {
        section(2, "Words are told by numbers: the number of a word has its letters as digits, the first one highest, in"
                + " the base that \"letters\" tells.");
        text("letters 2;length 2;row a aabba;");
        dueEach("base 2, at", 0, i -> y -> y.wordAt(0, i), 0, 1, 3, 2, NONE);
        text("letters 3;length 2;row a aacca;");
        dueEach("base 3, at", 0, i -> y -> y.wordAt(0, i), 0, 2, 8, 6, NONE);
        text("letters 4;length 6;row a aaaaaadddddd;");
        due("the least", y -> y.wordAt(0, 0), 0);
        due("the next", y -> y.wordAt(0, 1), 3);
        due("the greatest", y -> y.wordAt(0, 6), 4095);
        due("the one before", y -> y.wordAt(0, 5), 1023);
    }

    void section2Place() {
        section(2, "A place is a row and a start (from 0) such that L letters of the row lie from there on, none of them"
                + " covered.");
        text(SHORT);
        due("one letter too few", y -> y.row(0, 1), 0);
        due("no place", y -> y.wordAt(0, 0), NONE);
        due("just L letters", y -> y.row(1, 1), 1);
        dueEach("of q", -1, i -> y -> y.wordAt(1, i), NONE, 2, NONE);
        dueEach("of r", -1, i -> y -> y.wordAt(2, i), NONE, 3, 6, NONE);
        text("changes 0;row a aaabcdaaabbb;", y -> y.take(27));
        due("bcd is covered", y -> y.row(0, 4), 7 << 3);
        dueEach("place", 0, i -> y -> y.wordAt(0, i), 0, NONE, NONE, NONE, NONE, NONE, 0, 1, 5, 21, NONE);
        due("places", y -> y.row(0, 1), 5);
        text("length 6;row a " + "a".repeat(30) + ";");
        due("places of the longest row", y -> y.row(0, 1), 25);
        dueEach("place", 23, i -> y -> y.wordAt(0, i), 0, 0, NONE, NONE, NONE, NONE, NONE, NONE, NONE);
        text("length 2;row a " + "a".repeat(28) + "bc;row b ab;");
        due("the last place of the longest row", y -> y.wordAt(0, 28), 6);
        due("behind it", y -> y.wordAt(0, 29), NONE);
        due("a row of two letters", y -> y.wordAt(1, 0), 1);
    }

    void section2WordAtAPlace() {
        section(2, "The word at a place is that of these letters.");
        text(XYZ);
        dueEach("of x", 0, i -> y -> y.wordAt(0, i), ABC, BCA, CAB, NONE);
    }

    void section2LeftOut() {
        section(2, "A row can be left out; then it has no places.");
        text(XYZ, y -> y.setOut(0, true));
        due("places", y -> y.row(0, 1), 0);
        dueEach("wordAt", 0, i -> y -> y.wordAt(0, i), NONE, NONE, NONE);
        due("all places", y -> y.setting(5), 4);
        due("choose", y -> y.choose(0, 0), ARGUMENT);
        x.setOut(1, true);
        x.setOut(2, true);
        due("no places", y -> y.setting(5), 0);
        x.setOut(0, false);
        due("places again", y -> y.row(0, 1), 3);
    }

    void section2Distance() {
        section(2, "The distance of a word from a row that is not left out is the least number of letters by which it"
                + " differs from the word at a place of the row; L if the row has no place.");
        text(SHORT);
        for (int word = 0; word < 8; word++) {
            int w = word;
            due("without a place", y -> y.distance(0, w), 3);
        }
        // q: aba 2; r: abb 3, bba 6.
        dueEach("from q", 0, w -> y -> y.distance(1, w), 1, 2, 0, 1, 2, 3, 1, 2);
        dueEach("from r", 0, w -> y -> y.distance(2, w), 2, 1, 1, 0, 1, 2, 0, 1);
        x.take(2);
        due("the only place is covered", y -> y.distance(1, 2), 3);
        text("length 6;row a " + "a".repeat(5) + ";row b bbbbbb;");
        due("L of 6", y -> y.distance(0, 0), 6);
        due("all letters differ", y -> y.distance(1, 0), 6);
        text("length 2;row a ab;");
        due("L of 2", y -> y.distance(0, 14), 2);
    }

    void section2Score() {
        section(2, "Its score is the sum of its distances from all rows that are not left out.");
        text(SHORT);
        due("with a row without a place", y -> y.score(2), 3 + 0 + 1);
        x.setOut(0, true);
        due("of two rows", y -> y.score(2), 1);
        x.setOut(1, true);
        x.setOut(2, true);
        due("of no row", y -> y.score(2), 0);
        text("length 6;" + tenRows("a".repeat(30)));
        due("the greatest", y -> y.score(4095), 60);
        due("the least", y -> y.score(0), 0);
    }

    void section2Has() {
        section(2, "A row that is not left out has a word if the distance is not greater than the changes (so a row"
                + " without a place has every word if L is not greater than the changes; taking covers nothing of it"
                + " then).");
        text("letters 2;length 3;row a aaa;");
        for (int changes = 0; changes <= 3; changes++) {
            x.setChanges(changes);
            int c = changes;
            // aaa, aab, abb and bbb are 0, 1, 2 and 3 away.
            due("aaa, changes " + c, y -> y.having(0), 1);
            due("aab, changes " + c, y -> y.having(1), c >= 1 ? 1 : 0);
            due("abb, changes " + c, y -> y.having(3), c >= 2 ? 1 : 0);
            due("bbb, changes " + c, y -> y.having(7), c >= 3 ? 1 : 0);
        }
        for (int length = 2; length <= 4; length++) {
            int l = length;
            text("letters 2;changes 0;length " + l + ";row a ab;");
            if (l == 2) {
                x.take(1);
            }
            due("no place of " + l, y -> y.setting(5), 0);
            for (int changes = 0; changes <= 3; changes++) {
                x.setChanges(changes);
                int due = changes >= l ? 1 : 0;
                due("the first word of " + l + ", changes " + changes, y -> y.having(0), due);
                due("the last word of " + l + ", changes " + changes, y -> y.having((1 << l) - 1), due);
            }
            int covered = x.row(0, 4);
            due("taking it, of " + l, y -> y.take(0), l == 4 ? STATE : (Object) 1);
            due("covers nothing", y -> y.row(0, 4), covered);
        }
        text("letters 2;changes 3;row a aba;", y -> y.setOut(0, true));
        due("a row that is left out has none", y -> y.having(2), 0);
    }

    void section2Order() {
        section(2, "Words are in order by their scores, the least first, of several the lowest number first.");
        text("letters 2;length 2;row a aa;row b bb;");
        dueEach("all scores are 2, ranked", -1, i -> y -> y.ranked(i), NONE, 0, 1, 2, 3, NONE);
        text("letters 2;length 2;row a bb;");
        dueEach("scores 2 1 1 0, ranked", -1, i -> y -> y.ranked(i), NONE, 3, 1, 2, 0, NONE);
        dueEach("rankOf", 0, w -> y -> y.rankOf(w), 3, 1, 2, 0);
    }

    void section2Best() {
        section(2, "The first one is the best word.");
        text("letters 2;length 2;row a aa;row b bb;");
        due("of equal ones", y -> y.best(0), 0);
        text("letters 2;length 2;row a bb;");
        due("the last one", y -> y.best(0), 3);
        text("");
        due("without rows", y -> y.best(0), 0);
    }

    // ---- promises 8 to 12

    void promise8Setting() {
        promise(8, "- `what`: 0 rows, 1 letters, 2 the length, 3 the changes, 4 how many words there are (letters to the"
                + " power of the length), 5 places, 6 rows that are left out, 7 letters that are covered, 8 words that were"
                + " taken, 9 rows of which a place is chosen");
        promise(8, "Returns this number.");
        text("");
        dueEach("nothing, setting", 0, what -> y -> y.setting(what), 0, 4, 3, 1, 64, 0, 0, 0, 0, 0);
        text("letters 2;length 2;changes 0;");
        dueEach("the least, setting", 0, what -> y -> y.setting(what), 0, 2, 2, 0, 4, 0, 0, 0, 0, 0);
        text("letters 4;length 6;changes 3;" + tenRows("a".repeat(30)), y -> y.improve(50));
        dueEach("the greatest, setting", 0, what -> y -> y.setting(what), 10, 4, 6, 3, 4096, 250, 0, 0, 0, 10);
        for (int k = 0; k < 5; k++) {
            x.take(0);
        }
        dueEach("all covered, setting", 0, what -> y -> y.setting(what), 10, 4, 6, 3, 4096, 0, 0, 300, 5, 0);
        text(tenRows("ab"), y -> y.setOut(0, true), y -> y.setOut(9, true));
        due("two are left out", y -> y.setting(6), 2);
        for (int r = 1; r < 9; r++) {
            x.setOut(r, true);
        }
        due("all are left out", y -> y.setting(6), 10);
        text("changes 3;row a ab;");
        for (int k = 0; k < 6; k++) {
            x.take(k);
        }
        due("six were taken", y -> y.setting(8), 6);
    }

    void promise8OutOfRange() {
        promise(8, "Throws `IllegalArgumentException` if what is out of range");
        text(XYZ);
        for (int what : new int[] {-1, 10, LOW, HIGH}) {
            refused("setting " + what, y -> y.setting(what), ARGUMENT);
        }
        due("setting 0", y -> y.setting(0), 3);
        due("setting 9", y -> y.setting(9), 0);
    }

    void promise9Row() {
        promise(9, "- `what`: 0 its letters (how many), 1 its places, 2 the start of its chosen place (NONE without one),"
                + " 3 1 if it is left out, otherwise 0, 4 its covered letters, as a set");
        promise(9, "Returns this number of a row.");
        text("length 2;row a ab;row b " + "a".repeat(30) + ";");
        dueEach("the shortest", 0, what -> y -> y.row(0, what), 2, 1, NONE, 0, 0);
        dueEach("the longest", 0, what -> y -> y.row(1, what), 30, 29, NONE, 0, 0);
        x.choose(0, 0);
        x.choose(1, 28);
        due("the first start", y -> y.row(0, 2), 0);
        due("the last start", y -> y.row(1, 2), 28);
        x.setOut(1, true);
        dueEach("left out", 0, what -> y -> y.row(1, what), 30, 0, NONE, 1, 0);
        x.take(1);
        dueEach("all covered", 0, what -> y -> y.row(0, what), 2, 0, NONE, 0, 3);
        x.setOut(1, false);
        x.setChanges(0);
        x.take(0);
        due("the first letters", y -> y.row(1, 4), 3);
        text("length 2;changes 0;row b " + "a".repeat(28) + "bc;", y -> y.take(6));
        due("the last letters", y -> y.row(0, 4), 3 << 28);
    }

    void promise9OutOfRange() {
        promise(9, "Throws `IllegalArgumentException` if what is out of range");
        text(XYZ);
        for (int what : new int[] {-1, 5, LOW, HIGH}) {
            refused("row 0, " + what, y -> y.row(0, what), ARGUMENT);
            refused("row 3, " + what, y -> y.row(3, what), INDEX);
        }
        refusedRows("row", 3, r -> y -> y.row(r, 0));
        due("the greatest", y -> y.row(2, 4), 0);
    }

    void promise10Letter() {
        promise(10, "Returns the number of letter i of a row, covered or not. @throws IndexOutOfBoundsException also if there"
                + " is no such letter.");
        text("changes 0;row q abcd;row p " + "abcd".repeat(7) + "dc;", y -> y.take(27));
        due("bcd is covered", y -> y.row(0, 4), 14);
        dueEach("letter", -1, i -> y -> y.letter(0, i), INDEX, 0, 1, 2, 3, INDEX);
        due("the last of 30", y -> y.letter(1, 29), 2);
        due("the one before", y -> y.letter(1, 28), 3);
        x.setOut(1, true);
        due("of a row that is left out", y -> y.letter(1, 29), 2);
        text(XYZ);
        for (int i : new int[] {-1, 5, LOW, HIGH}) {
            refused("letter " + i, y -> y.letter(0, i), INDEX);
        }
        refused("letter 3 of z", y -> y.letter(2, 3), INDEX);
        refusedRows("letter of row", 3, r -> y -> y.letter(r, 0));
    }

    void promise11WordAt() {
        promise(11, "Returns the word at a place; NONE if this is no place (start: any int).");
        text(XYZ);
        dueEach("x", -1, i -> y -> y.wordAt(0, i), NONE, ABC, BCA, CAB, NONE, NONE, NONE);
        for (int start : new int[] {LOW, LOW + 1, -30, 29, 30, 31, 32, HIGH - 2, HIGH}) {
            due("start " + start, y -> y.wordAt(2, start), NONE);
        }
        refusedRows("wordAt in row", 3, r -> y -> y.wordAt(r, 0));
        refused("wordAt in no row, at no place", y -> y.wordAt(3, HIGH), INDEX);
    }

    void promise12Differ() {
        promise(12, "Returns by how many letters two words differ.");
        text("length 6;");
        due("all of 6", y -> y.differ(0, 4095), 6);
        due("none of 6", y -> y.differ(4095, 4095), 0);
        due("the last one", y -> y.differ(4095, 4094), 1);
        due("the first one", y -> y.differ(0, 3072), 1);
        due("all but the first", y -> y.differ(3072, 4095), 5);
        text("letters 3;length 2;");
        due("all of 2", y -> y.differ(0, 8), 2);
        due("the first of 2", y -> y.differ(2, 8), 1);
        refusedWords("differ", 9, w -> y -> y.differ(w, 0));
        refusedWords("differ from", 9, w -> y -> y.differ(0, w));
    }

    // ---- promises 13 to 17

    void promise13Distance() {
        promise(13, "Returns the distance of a word from a row; NONE if the row is left out.");
        text(SHORT);
        due("q", y -> y.distance(1, 2), 0);
        due("p", y -> y.distance(0, 2), 3);
        x.setOut(0, true);
        x.setOut(1, true);
        due("p, left out", y -> y.distance(0, 2), NONE);
        due("q, left out", y -> y.distance(1, 2), NONE);
        due("r, not left out", y -> y.distance(2, 6), 0);
        refusedRows("distance of row", 3, r -> y -> y.distance(r, 0));
        refusedWords("distance of word", 8, w -> y -> y.distance(0, w));
    }

    void promise14Score() {
        promise(14, "Returns the score of a word.");
        text(SHORT);
        dueEach("score", -1, w -> y -> y.score(w), INDEX, 6, 6, 4, 4, 6, 8, 4, 6, INDEX);
        refusedWords("score", 8, w -> y -> y.score(w));
    }

    void promise15Having() {
        promise(15, "Returns the rows that have a word, as a set.");
        text("changes 0;" + tenRows("abcd").replace("row j abcd", "row j cccc"));
        due("none", y -> y.having(0), 0);
        due("all but the last", y -> y.having(6), 511);
        due("the last one alone", y -> y.having(42), 512);
        x.setChanges(3);
        due("all", y -> y.having(0), 1023);
        x.setOut(0, true);
        x.setOut(9, true);
        due("all but those that are left out", y -> y.having(0), 510);
        text("");
        due("without rows", y -> y.having(63), 0);
        refusedWords("having", 64, w -> y -> y.having(w));
    }

    void promise16Closest() {
        promise(16, "Returns the start of the place of a row at which a word differs by the fewest letters, the least one of"
                + " several; NONE without places.");
        text("letters 2;row a abbabb;row b ab;row c bab;");
        due("the first of two", y -> y.closest(0, 3), 0);
        due("bba", y -> y.closest(0, 6), 1);
        due("aaa: abb 2, bba 2, bab 2, abb 2", y -> y.closest(0, 0), 0);
        due("bbb: abb 1, bba 1, bab 1, abb 1", y -> y.closest(0, 7), 0);
        due("baa: abb 3, bba 1, bab 1", y -> y.closest(0, 4), 1);
        due("without places", y -> y.closest(1, 0), NONE);
        due("all letters differ at the only place", y -> y.closest(2, 2), 0);
        x.setOut(0, true);
        due("left out", y -> y.closest(0, 3), NONE);
        x.setOut(0, false);
        x.setChanges(0);
        x.take(3);
        due("the first one is covered", y -> y.closest(0, 3), 3);
        x.take(3);
        due("both are covered", y -> y.closest(0, 3), NONE);
        refusedRows("closest of row", 3, r -> y -> y.closest(r, 0));
        refusedWords("closest of word", 8, w -> y -> y.closest(0, w));
    }

    void promise17Spread() {
        promise(17, "Returns the greatest distance of a word from a row that is not left out; NONE without such rows.");
        text(SHORT);
        due("of a row without a place", y -> y.spread(2), 3);
        x.setOut(0, true);
        due("of the two others", y -> y.spread(2), 1);
        due("of aaa", y -> y.spread(0), 2);
        x.setOut(1, true);
        due("of the last one", y -> y.spread(3), 0);
        x.setOut(2, true);
        due("without such rows", y -> y.spread(3), NONE);
        text("");
        due("without rows", y -> y.spread(0), NONE);
        refusedWords("spread", 64, w -> y -> y.spread(w));
    }

    // ---- promises 18 to 24

    void promise18Shared() {
        promise(18, "Returns how many different words there are that are at places of both rows (of a row and itself: at its"
                + " places).");
        text("letters 2;row a abababab;row b bababa;row c bbbb;row d ab;");
        due("two words, many times", y -> y.shared(0, 1), 2);
        due("of a row and itself", y -> y.shared(0, 0), 2);
        due("of a row of one word and itself", y -> y.shared(2, 2), 1);
        due("none", y -> y.shared(0, 2), 0);
        due("without places", y -> y.shared(3, 0), 0);
        due("without places, and itself", y -> y.shared(3, 3), 0);
        x.setOut(0, true);
        due("left out", y -> y.shared(0, 1), 0);
        due("left out, and itself", y -> y.shared(0, 0), 0);
        text("length 2;row a " + "aabbccddacbdadcba;" + "row b aabbccddacbdadcba;");
        due("many", y -> y.shared(0, 1), 14);
        refusedRows("shared", 2, r -> y -> y.shared(r, 0));
        refusedRows("shared with", 2, r -> y -> y.shared(0, r));
    }

    void promise19SharedAt() {
        promise(19, "Returns number i, from 0, of these words, in ascending order; NONE if there is none such.");
        text(XYZ + "row w aacaa;");
        dueEach("x and y", -1, i -> y -> y.sharedAt(0, 1, i), NONE, ABC, BCA, CAB, NONE);
        dueEach("z and w", -1, i -> y -> y.sharedAt(2, 3, i), NONE, AAC, NONE);
        dueEach("w and itself", -1, i -> y -> y.sharedAt(3, 3, i), NONE, AAC, 6, 18, NONE);
        due("none", y -> y.sharedAt(0, 2, 0), NONE);
        due("the least", y -> y.sharedAt(0, 1, LOW), NONE);
        due("the greatest", y -> y.sharedAt(0, 1, HIGH), NONE);
        x.setOut(1, true);
        due("left out", y -> y.sharedAt(0, 1, 0), NONE);
        refusedRows("sharedAt", 4, r -> y -> y.sharedAt(r, 0, 0));
        refusedRows("sharedAt with", 4, r -> y -> y.sharedAt(0, r, 0));
        text("letters 2;length 2;row a abbaab;");
        dueEach("the least and the greatest word", -1, i -> y -> y.sharedAt(0, 0, i), NONE, 0, 1, 2, 3, NONE);
    }

    void promise20Hits() {
        promise(20, "Returns the number of places at which a word differs by no more letters than the changes.");
        text("letters 2;changes 0;row a aaabbb;row b ab;row c aaa;");
        // aaa, aab, abb, bbb and aaa.
        for (int changes = 0; changes <= 3; changes++) {
            x.setChanges(changes);
            int c = changes;
            due("aaa, changes " + c, y -> y.hits(0), new int[] {2, 3, 4, 5}[c]);
            due("bab, changes " + c, y -> y.hits(5), new int[] {0, 2, 5, 5}[c]);
        }
        x.setOut(0, true);
        due("left out", y -> y.hits(0), 1);
        x.setOut(2, true);
        due("a row without a place has none", y -> y.hits(0), 0);
        refusedWords("hits", 8, w -> y -> y.hits(w));
        text("length 2;changes 2;" + tenRows("a".repeat(30)));
        due("all places of ten rows", y -> y.hits(15), 290);
        read(x, "length 2;changes 2;row a aaa;");
        due("none of the text before", y -> y.hits(15), 2);
    }

    void promise21Hit() {
        promise(21, "- `i`: the number of such a place, from 0, by rows, then by starts");
        promise(21, "- `what`: 0 its row, 1 its start, 2 by how many letters the word differs there");
        promise(21, "Returns this number of it.");
        text("letters 2;changes 1;row a aaabbb;row b ab;row c aaa;");
        int[][] hits = {{0, 0, 0}, {0, 1, 1}, {2, 0, 0}};
        for (int i = 0; i < 3; i++) {
            int k = i;
            dueEach("hit " + k, 0, what -> y -> y.hit(0, k, what), hits[k][0], hits[k][1], hits[k][2]);
        }
        text("length 2;changes 3;" + tenRows("a".repeat(30)));
        due("the last row", y -> y.hit(15, 289, 0), 9);
        due("the last start", y -> y.hit(15, 289, 1), 28);
        due("both letters differ", y -> y.hit(15, 289, 2), 2);
        due("the last of a row", y -> y.hit(15, 28, 1), 28);
        due("the first of the next", y -> y.hit(15, 29, 1), 0);
        due("its row", y -> y.hit(15, 29, 0), 1);
        due("behind the last", y -> y.hit(15, 290, 0), INDEX);
    }

    void promise21NoSuchPlace() {
        promise(21, "Throws `IndexOutOfBoundsException` also if there is no such place");
        text(XYZ);
        due("there are 3", y -> y.hits(ABC), 3);
        due("the last one", y -> y.hit(ABC, 2, 0), 2);
        for (int i : new int[] {-1, 3, LOW, HIGH}) {
            refused("hit " + i, y -> y.hit(ABC, i, 0), INDEX);
            refused("hit " + i + " and what 3", y -> y.hit(ABC, i, 3), INDEX);
        }
        refused("hit 0 of none", y -> y.hit(13, 0, 0), INDEX);
        x.setChanges(3);
        refusedWords("hit of word", 27, w -> y -> y.hit(w, 0, 0));
    }

    void promise21OutOfRange() {
        promise(21, "Throws `IllegalArgumentException` if what is out of range");
        text(XYZ);
        for (int what : new int[] {-1, 3, LOW, HIGH}) {
            refused("what " + what, y -> y.hit(ABC, 2, what), ARGUMENT);
            refused("what " + what + " of no word", y -> y.hit(27, 0, what), INDEX);
        }
    }

    void promise22Kinds() {
        promise(22, "Returns how many different words there are at places.");
        text("");
        due("without rows", y -> y.kinds(), 0);
        text("row a ab;");
        due("without places", y -> y.kinds(), 0);
        text("length 6;" + tenRows("a".repeat(30)));
        due("one word at 250 places", y -> y.kinds(), 1);
        text("letters 2;length 2;row a aabba;");
        due("all words", y -> y.kinds(), 4);
        x.setOut(0, true);
        due("left out", y -> y.kinds(), 0);
    }

    void promise23TimesOf() {
        promise(23, "Returns at how many places just this word is.");
        text("length 6;changes 3;" + tenRows("a".repeat(30)));
        due("all places", y -> y.timesOf(0), 250);
        due("a word that differs by one letter", y -> y.timesOf(1), 0);
        due("the last word", y -> y.timesOf(4095), 0);
        x.setOut(3, true);
        due("without a row", y -> y.timesOf(0), 225);
        text(XYZ);
        refusedWords("timesOf", 27, w -> y -> y.timesOf(w));
        text("length 2;row a dddd;");
        due("the greatest word", y -> y.timesOf(15), 3);
    }

    void promise24Commonest() {
        promise(24, "Returns the word that is at the most places, the lowest one of several; NONE without places.");
        text("");
        due("without rows", y -> y.commonest(), NONE);
        text("row a ab;row b cd;");
        due("without places", y -> y.commonest(), NONE);
        text("row a dddd;row b ccc;");
        due("ddd is at two", y -> y.commonest(), 63);
        text("row a dddd;row b cccc;");
        due("both are at two", y -> y.commonest(), 42);
        text("row a ddd;");
        due("the greatest word", y -> y.commonest(), 63);
        text("row a aaa;row b bbb;");
        due("the least word", y -> y.commonest(), 0);
        x.setOut(0, true);
        due("without that row", y -> y.commonest(), 21);
        x.setOut(1, true);
        due("all are left out", y -> y.commonest(), NONE);
        text(XYZ, y -> y.take(ABC), y -> y.setChanges(0));
        due("all are covered", y -> y.commonest(), NONE);
    }
}
