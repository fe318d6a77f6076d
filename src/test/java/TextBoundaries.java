/** The boundary cases of the buffer and of texts: section 1 and promises 1 to 4, 6 and 7. */
final class TextBoundaries extends Boundaries {
    TextBoundaries(Check check, Sentences sentences) {
        super(check, sentences);
    }

    /** A new object reads the text; it has no error, and so many rows. */
    private void right(String text, int rows) {
        for (String pad : PADS) {
            begin();
            feed(x, text, pad);
            due(text, y -> y.readText(), rows);
            due(text + " - code", y -> y.errorCode(), 0);
            due(text + " - position", y -> y.errorPosition(), NONE);
        }
    }

    private void settings(String text, int letters, int length, int changes) {
        begin();
        read(x, text);
        due(text + " - letters", y -> y.setting(1), letters);
        due(text + " - length", y -> y.setting(2), length);
        due(text + " - changes", y -> y.setting(3), changes);
    }

    /** The text has this error, and reading it changes nothing else. */
    private void wrong(String text, int code, int position) {
        text(XYZ, y -> y.save(), y -> y.choose(0, 1), y -> y.report(), y -> y.setOut(2, true));
        for (String pad : PADS) {
            refusedText(text, y -> fedAndRead(y, text, pad), y -> y.truncate(0));
            due(text, y -> fedAndRead(y, text, pad), ARGUMENT);
            due(text + " - code", y -> y.errorCode(), code);
            due(text + " - position", y -> y.errorPosition(), position);
            due(text + " - the buffer", y -> sizeOf(y), 0);
        }
    }

    private static int fedAndRead(HiddenWords y, String text, String pad) {
        feed(y, text, pad);
        return y.readText();
    }

    // ---- what it is

    void what0LastCall() {
        what("Words that are hidden in rows of letters, with some letters changed: distances, an exact search with bounds,"
                + " all words in order, places with few changes, profiles by counts that are improved row by row, rows"
                + " without the word, second words behind those that were taken, scripts, a report, undo and a saved"
                + " state.");
        what("An object is used for at most 512 calls after it has been made; what later calls answer is free.");
        text(XYZ);
        // Six calls were made so far: truncate, three times feed, truncate, readText.
        for (int k = 7; k < 511; k++) {
            int call = k;
            due("call " + call, y -> y.setChanges(call % 4), k == 7 ? 1 : (k - 1) % 4);
        }
        due("call 511", y -> y.undo(), 5);
        due("call 512", y -> y.takeBest(), ABC);
    }

    // ---- section 1

    void section1BufferOf600Bytes() {
        section(1, "It is read from a buffer of at most 600 bytes.");
        String end = "row b ba;";
        right("row a ab;" + " ".repeat(582) + end, 2);
        right("row a ab;" + " ".repeat(581) + end, 2);
        wrong("row a ab;" + " ".repeat(583) + "row b ba", 1, 600);
        begin(y -> feed(y, "row a ab;" + " ".repeat(591), ";"));
        refused("byte 601 and on", y -> y.feed(0x3b3b3b3b, 0, 0, 0, 0), STATE);
    }

    void section1Grammar() {
        section(1, "text = { statement \";\" }");
        right("", 0);
        right("row a ab;", 1);
        right("row a ab;row b ab;", 2);
        wrong("row a ab", 1, 8);
        wrong(";", 1, 0);
        wrong("row a ab;;", 1, 9);
        wrong("row a ab row b ab;", 1, 9);
    }

    void section1Statement() {
        section(1, "statement = \"letters\" N | \"length\" N | \"changes\" N | \"row\" NAME ROW");
        wrong("letters;", 1, 7);
        wrong("letters 2 2;", 1, 10);
        wrong("length;", 1, 6);
        wrong("length 2 2;", 1, 9);
        wrong("changes;", 1, 7);
        wrong("changes 2 2;", 1, 10);
        wrong("row;", 1, 3);
        wrong("row a;", 1, 5);
        wrong("row a ab ab;", 1, 9);
        wrong("row a 5;", 1, 6);
        wrong("row 5 ab;", 1, 4);
        wrong("row a;ab;", 1, 5);
        wrong("letters a;", 1, 8);
        wrong("5;", 1, 0);
        wrong("rows a ab;", 1, 0);
        wrong("ro a ab;", 1, 0);
        wrong("bow a ab;", 1, 0);
        wrong("rob a ab;", 1, 0);
        wrong("letter 2;", 1, 0);
        wrong("lengths 2;", 1, 0);
        wrong("change 2;", 1, 0);
        wrong("choose a 1;", 1, 0);
    }

    void section1Word() {
        section(1, "A word is a maximal run of letters a to z, at most 30 of them.");
        right("row az " + "a".repeat(30) + ";", 1);
        wrong("row az " + "a".repeat(31) + ";", 1, 7);
        wrong("row az " + "a".repeat(31), 1, 7);
        wrong("row " + "a".repeat(31) + " ab;", 1, 4);
        wrong("row" + "a".repeat(28) + " a ab;", 1, 0);
        wrong("rowa ab;", 1, 0);
        wrong("row a ab`;", 1, 8);
        wrong("row a ab{;", 1, 8);
        wrong("row a abA;", 1, 8);
        wrong("row `a ab;", 1, 4);
        wrong("row z{ ab;", 1, 5);
        wrong("Row a ab;", 1, 0);
    }

    void section1NameAndRow() {
        section(1, "A NAME is a word of at most 8 letters, a ROW is any word.");
        right("row a ab;", 1);
        right("row abcdefgh ab;", 1);
        right("row stuvwxyz ab;row row ab;row letters ab;", 3);
        wrong("row abcdefghi ab;", 1, 4);
        wrong("row " + "a".repeat(30) + " ab;", 1, 4);
        wrong("row a row;", 3, 6);
        wrong("row a letters;", 3, 6);
        begin();
        read(x, "row abcdefgh ab;row abcdefg ba;");
        due("the longest names", y -> reported(y), "abcdefgh ab\nabcdefg ba\n");
    }

    void section1Number() {
        section(1, "A number N is a maximal run of digits, at most 3 of them.");
        settings("letters 3;length 5;changes 2;", 3, 5, 2);
        settings("letters 03;length 05;changes 00;", 3, 5, 0);
        settings("letters 003;length 005;changes 000;", 3, 5, 0);
        wrong("letters 0003;", 1, 8);
        wrong("length 0005;", 1, 7);
        wrong("changes 0000;", 1, 8);
        wrong("letters 4294967299;", 1, 8);
        wrong("length 4294967299;", 1, 7);
        wrong("changes 4294967296;", 1, 8);
        wrong("changes 18446744073709551616;", 1, 8);
        wrong("changes 1000;", 1, 8);
        wrong("changes 999;", 2, 8);
        wrong("changes 10;", 2, 8);
        wrong("changes 1 0;", 1, 10);
        wrong("changes 1/;", 1, 9);
        wrong("changes 1:;", 1, 9);
        wrong("changes -1;", 1, 8);
        wrong("changes 1a;", 1, 9);
        right("letters3;length5;changes0;", 0);
    }

    void section1OtherTokens() {
        section(1, "The other tokens are the single characters ; ( and ).");
        right("row a ab;row b ab;", 2);
        wrong("(", 1, 0);
        wrong(")", 1, 0);
        wrong("row a ab(;", 1, 8);
        wrong("row a ab);", 1, 8);
        wrong("row(a ab;", 1, 3);
        wrong("row a ab:", 1, 8);
    }

    void section1Blanks() {
        section(1, "Spaces (byte 32) and line feeds (byte 10) may stand before, between and behind tokens.");
        right(" ", 0);
        right("\n", 0);
        right(" \n".repeat(300), 0);
        right("\n row\na\n ab\n\n;\n", 1);
        right(" letters 2 ; length 2 ;\nchanges 3 ; row a ab ; ", 1);
        right("letters2;length2;changes3;row a ab;", 1);
        wrong("row a a b;", 2, 6);
        wrong("row a\tab;", 1, 5);
        wrong("row a ab;\r\n", 1, 9);
    }

    void section1EveryOtherByte() {
        section(1, "Every other byte, a longer run of letters and a longer run of digits is an invalid token.");
        for (int b = 0; b < 256; b++) {
            char sign = (char) b;
            if (sign == ' ' || sign == '\n') {
                right("row a ab" + sign + ";", 1);
                right("row a ab;" + sign, 1);
            } else {
                // A letter makes a word longer, so that it tells of a letter that there is not.
                boolean isLetter = sign >= 'a' && sign <= 'z';
                wrong("row a ab;" + sign, 1, 9);
                if (!isLetter && sign != ';') {
                    wrong("row a ab" + sign + ";", 1, 8);
                } else if (sign > 'd') {
                    wrong("row a ab" + sign + ";", 3, 6);
                }
            }
        }
        wrong("a".repeat(31), 1, 0);
        wrong("letters 2222;", 1, 8);
    }

    void section1Settings() {
        section(1, "\"letters\" tells how many letters there are, from a on (2 to 4; 4 without it), \"length\" how many"
                + " letters a hidden word has (2 to 6; 3 without it), \"changes\" how many changes it may have (0 to 3;"
                + " 1 without it).");
        settings("", 4, 3, 1);
        settings("letters 2;", 2, 3, 1);
        settings("letters 4;", 4, 3, 1);
        settings("length 2;", 4, 2, 1);
        settings("length 6;", 4, 6, 1);
        settings("changes 0;", 4, 3, 0);
        settings("changes 3;", 4, 3, 3);
        for (int n = 0; n < 12; n++) {
            wrongOrRight("letters ", n, 2, 4);
            wrongOrRight("length ", n, 2, 6);
            wrongOrRight("changes ", n, 0, 3);
        }
        right("letters 2;row a ab;", 1);
        wrong("letters 2;row a abc;", 3, 16);
        right("letters 3;row a abc;", 1);
        wrong("letters 3;row a abd;", 3, 16);
        right("row a abcd;", 1);
        wrong("row a abcde;", 3, 6);
    }

    private void wrongOrRight(String statement, int n, int least, int most) {
        if (n >= least && n <= most) {
            right(statement + n + ";", 0);
        } else {
            wrong(statement + n + ";", 2, statement.length());
        }
    }

    void section1Once() {
        section(1, "Each of these three may stand once, \"letters\" only before all rows.");
        right("changes 1;length 3;letters 2;row a ab;", 1);
        right("letters 2;row a ab;length 2;changes 1;", 1);
        right(tenRows("ab") + "length 2;changes 2;", 10);
        wrong("letters 2;letters 2;", 4, 10);
        wrong("length 3;length 3;", 4, 9);
        wrong("changes 1;changes 1;", 4, 10);
        wrong("row a ab;length 3;row b ab;length 3;", 4, 27);
        wrong("row a ab;letters 4;", 4, 9);
        wrong("letters 4;row a ab;letters 4;", 4, 19);
        settings("row a ab;length 5;changes 0;", 4, 5, 0);
    }

    void section1Row() {
        section(1, "\"row\" tells the name of a row and its letters (2 to 30); at most 10 rows.");
        wrong("row a a;", 2, 6);
        right("row a ab;", 1);
        right("row a abc;", 1);
        right("row a " + "abcd".repeat(7) + "a;", 1);
        right("row a " + "abcd".repeat(7) + "ab;", 1);
        wrong("row a " + "abcd".repeat(7) + "aba;", 1, 6);
        right(tenRows("ab"), 10);
        right(tenRows("a".repeat(30)), 10);
        wrong(tenRows("ab") + "row k ab;", 6, 90);
        begin();
        read(x, "row a " + "abcd".repeat(7) + "ab;row b ba;");
        due("the longest", y -> y.row(0, 0), 30);
        due("the shortest", y -> y.row(1, 0), 2);
    }

    void section1RowNumbers() {
        section(1, "They have numbers from 0, in the order of their statements.");
        begin();
        read(x, "row q aa;row p bbb;");
        due("row 0", y -> y.row(0, 0), 2);
        due("row 1", y -> y.row(1, 0), 3);
        due("row -1", y -> y.row(-1, 0), INDEX);
        due("row 2", y -> y.row(2, 0), INDEX);
        begin();
        read(x, tenRows("ab").replace("row j ab", "row j dcba"));
        due("row 9", y -> y.row(9, 0), 4);
        due("row 10", y -> y.row(10, 0), INDEX);
    }

    void section1Positions() {
        section(1, "Errors have a code and a position: the index of the first byte of a token, or the length of the text"
                + " if it ends too early.");
        wrong("a", 1, 0);
        wrong(" a", 1, 1);
        wrong("$", 1, 0);
        wrong("row", 1, 3);
        wrong("row ", 1, 4);
        wrong("row a", 1, 5);
        wrong("row a\n\n", 1, 7);
        wrong("row a ab", 1, 8);
        wrong("row a ab ", 1, 9);
        wrong("letters", 1, 7);
        wrong("letters 2", 1, 9);
        wrong("length ", 1, 7);
        wrong("changes 3 \n", 1, 11);
        wrong("row a ab;" + " ".repeat(590) + "$", 1, 599);
        wrong("row a ab;" + " ".repeat(582) + "row b b;\n", 2, 597);
        wrong("row a ab;" + " ".repeat(588) + "row", 1, 600);
        wrong("row a ab;" + " ".repeat(586) + "row" + "\n\n", 1, 600);
    }

    void section1FirstErrorLowestCode() {
        section(1, "Tokens are checked from left to right and the first error is reported; if several codes apply at one"
                + " token, the lowest one.");
        wrong("row a a e;", 2, 6);
        wrong("row abcdefghi a;", 1, 4);
        wrong("changes 4 4;", 2, 8);
        wrong("changes 4", 2, 8);
        wrong("changes 4;$", 2, 8);
        wrong("row a ab;row a b;", 3, 13);
        wrong("row a ab;row a", 3, 13);
        wrong("row a ab;letters 9;", 4, 9);
        wrong("changes 1;changes 9;", 4, 10);
        wrong("changes 1;changes $", 4, 10);
        wrong(tenRows("ab") + "row a b;", 6, 90);
        wrong(tenRows("ab") + "row abcdefghi", 6, 90);
        // Two codes at one token: 2 and 3.
        wrong("row a e;", 2, 6);
        wrong("letters 2;row a c;", 2, 16);
    }

    void section1Code1() {
        section(1, "1: an invalid token, or a token that the grammar does not allow here (also a word of more than 8"
                + " letters as a NAME).");
        wrong("row a ab;#", 1, 9);
        wrong("row a ab;\u0080", 1, 9);
        wrong("row a ab;\u00ff", 1, 9);
        wrong("row a ab;row", 1, 12);
        wrong("row abcdefghi ab;", 1, 4);
        right("row abcdefgh ab;", 1);
        // Not one of the tens of rows has such a name, so this is no code 3 and no code 6.
        wrong("row abcdefgh ab;row abcdefghi ab;", 1, 20);
        wrong(tenRows("ab") + "rows a a;", 1, 90);
    }

    void section1Code2() {
        section(1, "2: a number out of its range; a ROW of one letter.");
        wrong("letters 1;", 2, 8);
        wrong("letters 5;", 2, 8);
        wrong("length 1;", 2, 7);
        wrong("length 7;", 2, 7);
        wrong("changes 4;", 2, 8);
        wrong("row a a;", 2, 6);
        wrong("row a z;", 2, 6);
        right("row a aa;", 1);
    }

    void section1Code3() {
        section(1, "3: a NAME that a row has already; a ROW with a letter that there is not.");
        wrong("row a ab;row a ba;", 3, 13);
        right("row a ab;row aa ba;", 2);
        right("row ab ab;row ba ba;row b ab;", 3);
        wrong("row ab ab;row b ba;row ab aa;", 3, 23);
        wrong("row abcdefgh ab;row abcdefgh ab;", 3, 20);
        right("row abcdefgh ab;row abcdefgi ab;row bbcdefgh ab;", 3);
        wrong(tenRows("ab").replace("row j", "row a"), 3, 85);
        wrong("row a abe;", 3, 6);
        wrong("row a ebb;", 3, 6);
        wrong("row a " + "a".repeat(29) + "e;", 3, 6);
        wrong("row a " + "a".repeat(29) + "z;", 3, 6);
        right("row a " + "a".repeat(29) + "d;", 1);
    }

    void section1Code4() {
        section(1, "4: the first word of a second statement of a kind that may stand once; the first word of \"letters\""
                + " behind a row.");
        wrong("letters 2;changes 1;letters 2;", 4, 20);
        wrong("length 2;changes 1;length 2;", 4, 19);
        wrong("changes 2;row a ab;changes 2;", 4, 19);
        wrong("row a ab;row b ab;letters 2;", 4, 18);
        wrong(tenRows("ab") + "letters 2;", 4, 90);
        right("row a ab;row b ab;length 2;", 2);
    }

    void section1Code6() {
        section(1, "6: the first word of an 11th row.");
        right(tenRows("ab"), 10);
        wrong(tenRows("ab") + " row k ab;", 6, 91);
        wrong(tenRows("ab") + "row", 6, 90);
        wrong("length 2;" + tenRows("ab") + "changes 0;row k ab;", 6, 109);
    }

    // ---- promises

    void promise1EmptyText() {
        promise(1, "Creates a state as if an empty text was read, with an empty buffer.");
        begin();
        same("new, and an empty text", y -> y.errorCode(), y -> y.readText());
        dueEach("setting", 0, what -> y -> y.setting(what), 0, 4, 3, 1, 64, 0, 0, 0, 0, 0);
        due("buffer", y -> sizeOf(y), 0);
        refused("row 0", y -> y.row(0, 0), INDEX);
        refused("restore", y -> y.restore(), STATE);
        refused("reportByte", y -> y.reportByte(0), INDEX);
        due("undo", y -> y.undo(), NONE);
        due("outlier", y -> y.outlier(), NONE);
        due("spread", y -> y.spread(63), NONE);
        due("best", y -> y.best(0), 0);
        due("asked", y -> y.best(2), 12);
        due("cut", y -> y.best(3), 9);
        due("the last word in order", y -> y.ranked(63), 63);
        due("report", y -> y.report(), 0);
        due("save", y -> y.save(), 0);
    }

    void promise2BytesInOrder() {
        promise(2, "Appends 20 bytes to the buffer: the four bytes of each argument, the most significant byte first.");
        begin();
        x.feed(0x726f7720, 0x61206263, 0x64613b72, 0x6f772062, 0x20616462);
        x.feed(0x3b202020, 0x20202020, 0x20202020, 0x20202020, 0x2020200a);
        due("two rows", y -> y.readText(), 2);
        due("their letters", y -> reported(y), "a bcda\nb adb\n");
        // The greatest and the least arguments: bytes 127, 255 and 128 are there, each at its place.
        int[][] fours = {{HIGH, 0}, {0x207fffff, 1}, {LOW, 0}, {0x20202080, 3}, {0x2020ff20, 2}, {-1, 0}};
        for (int[] four : fours) {
            due("argument " + four[0], y -> y.feed(0x20202020, four[0], 0, 0, 0), 20);
            due("an invalid token", y -> y.readText(), ARGUMENT);
            due("its position", y -> y.errorPosition(), 4 + four[1]);
        }
    }

    void promise2Returns() {
        promise(2, "Returns the number of bytes in the buffer.");
        begin();
        for (int k = 1; k <= 30; k++) {
            due("feed " + k, y -> y.feed(1, 2, 3, 4, 5), 20 * k);
        }
        x.truncate(7);
        due("behind truncate", y -> y.feed(1, 2, 3, 4, 5), 27);
        x.truncate(0);
        due("behind truncate(0)", y -> y.feed(1, 2, 3, 4, 5), 20);
    }

    void promise2Exceeds600() {
        promise(2, "Throws `IllegalStateException` if it would exceed 600");
        for (int size = 579; size <= 600; size++) {
            int n = size;
            begin(y -> feed(y, "row a ab;" + " ".repeat(n - 9), "\0"));
            if (n <= 580) {
                due("feed to " + n, y -> y.feed(0, 0, 0, 0, 0), n + 20);
            } else {
                refused("feed to " + n, y -> y.feed(LOW, HIGH, 0, 0, 0), STATE);
            }
        }
    }

    void promise3Truncates() {
        promise(3, "Truncates the buffer.");
        begin(y -> feed(y, "row a ab;row b ab;", "\0"), y -> y.truncate(9));
        due("one row is left", y -> y.readText(), 1);
        begin(y -> feed(y, "row a ab;row b ab;", "\0"), y -> y.truncate(0));
        due("none is left", y -> y.readText(), 0);
        begin(y -> feed(y, "row a ab;row b ab;", "\0"), y -> y.truncate(18));
        due("all are left", y -> y.readText(), 2);
    }

    void promise3Returns() {
        promise(3, "- `n`: the new length");
        promise(3, "Returns n.");
        begin(y -> feed(y, " ".repeat(600), "\0"));
        for (int n : new int[] {600, 600, 599, 20, 1, 0, 0}) {
            due("truncate to " + n, y -> y.truncate(n), n);
        }
    }

    void promise3NegativeOrGreater() {
        promise(3, "Throws `IllegalArgumentException` if n is negative or greater than the present length");
        for (int size : new int[] {0, 1, 19, 600}) {
            begin(y -> feed(y, " ".repeat(size), "\0"));
            for (int n : new int[] {-1, LOW, size + 1, HIGH}) {
                refused("truncate " + size + " to " + n, y -> y.truncate(n), ARGUMENT);
            }
            due("truncate to the same", y -> y.truncate(size), size);
        }
        text(XYZ);
        refused("the buffer that was read is empty", y -> y.truncate(1), ARGUMENT);
        begin(y -> feed(y, "  ", "\0"), y -> y.truncate(1));
        refused("back to the greater length", y -> y.truncate(2), ARGUMENT);
    }

    void promise4ReplacesAll() {
        promise(4, "Reads the whole buffer as a text, which replaces all that there is but what is saved and the latest"
                + " report, and empties the buffer, also if the text has an error.");
        Step[] before = {y -> y.choose(0, 1), y -> y.setOut(1, true), y -> y.take(AAC), y -> y.setChanges(3)};
        text(XYZ, before);
        String next = "row q abcd;";
        read(x, next);
        String got = seen(x);
        due("undo is forgotten", y -> y.undo(), NONE);
        due("nothing is saved", y -> y.restore(), STATE);
        due("no report", y -> y.reportByte(0), INDEX);
        begin();
        read(x, next);
        that("as in a new object", got.equals(seen(x)));

        text("letters 2;length 2;changes 3;row a ababab;row b abab;row c ab;", y -> y.setOut(1, true), y -> y.take(1),
                y -> y.choose(0, 2), y -> y.setOut(2, true), y -> y.second(0), y -> y.tryFrom(0, 2));
        read(x, next);
        that("as in a new object, whatever was tried", got.equals(seen(x)));

        text(XYZ, y -> y.choose(0, 1), y -> y.save(), y -> y.report(), y -> read(y, "letters 2;length 2;row q ab;"));
        due("the report stays", y -> latestReport(y), "x aBCAb\ny bcabc\nz aac\n");
        due("what is saved stays", y -> y.restore(), 3);
        due("its letters", y -> y.setting(1), 3);
        due("its chosen place", y -> y.row(0, 2), 1);

        text(XYZ, y -> y.report(), y -> read(y, ""));
        due("an empty text replaces all, too", y -> y.setting(0), 0);
        due("the settings of an empty text", y -> y.setting(1), 4);
        due("the report of the text before", y -> latestReport(y), "x abcab\ny bcabc\nz aac\n");

        begin(y -> feed(y, "row a ab;", "\0"));
        due("a right text", y -> y.readText(), 1);
        due("empties the buffer", y -> sizeOf(y), 0);
        begin(y -> feed(y, "row a ab", "\0"));
        due("a wrong text", y -> y.readText(), ARGUMENT);
        due("empties the buffer, too", y -> sizeOf(y), 0);
        begin(y -> feed(y, " ".repeat(599) + "$", "\0"));
        due("a wrong text of 600 bytes", y -> y.readText(), ARGUMENT);
        due("empties it, too", y -> y.feed(0, 0, 0, 0, 0), 20);
    }

    void promise4Returns() {
        promise(4, "Returns the number of rows.");
        right("", 0);
        right("changes 0;", 0);
        right("row a ab;", 1);
        right(tenRows("ab"), 10);
    }

    void promise4Throws() {
        promise(4, "Throws `IllegalArgumentException` if the text has an error; only the buffer, errorCode() and"
                + " errorPosition() change then");
        wrong("letters 2;length 2;changes 3;row q ab;row r ba", 1, 46);
        wrong("$", 1, 0);
        begin();
        refusedText("in a new object", y -> fedAndRead(y, "letters 2;row a ab;row", "\0"), y -> y.truncate(0));
        text(XYZ, y -> y.take(AAC), y -> feed(y, "row", "\0"));
        due("wrong", y -> y.readText(), ARGUMENT);
        due("what was taken can be undone", y -> y.undo(), 0);
        due("the text before is there", y -> reported(y), "x abcab\ny bcabc\nz aac\n");
    }

    void promise6ErrorCode() {
        promise(6, "Returns the code of the error of the latest readText() or runScript(); 0 if there was none or no such"
                + " call.");
        begin();
        due("no such call", y -> y.errorCode(), 0);
        codes(y -> y.errorCode(), 0, 1, 6, 3, 4, 2);
    }

    void promise7ErrorPosition() {
        promise(7, "Returns the position of that error; NONE if there was none or no such call.");
        begin();
        due("no such call", y -> y.errorPosition(), NONE);
        codes(y -> y.errorPosition(), NONE, 0, 90, 6, 9, 8);
    }

    /** What is told behind a right call, and behind wrong ones of all codes. */
    private void codes(Step told, int none, int one, int six, int three, int four, int two) {
        begin();
        due("$", y -> fedAndRead(y, "$", "\0"), ARGUMENT);
        due("code 1", told, one);
        due("row 11", y -> fedAndRead(y, tenRows("ab") + "row k ab;", "\0"), ARGUMENT);
        due("code 6", told, six);
        due("right text", y -> read(y, "row a ab;"), 1);
        due("behind a right text", told, none);
        due("no such row", y -> run(y, "clear b;"), ARGUMENT);
        due("code 3", told, three);
        due("right script", y -> run(y, "changes 2;"), 1);
        due("behind a right script", told, none);
        due("letters behind a row", y -> fedAndRead(y, "row a ab;letters 2;", "\0"), ARGUMENT);
        due("code 4", told, four);
        due("feed", y -> y.feed(0, 0, 0, 0, 0), 20);
        due("too large", y -> y.truncate(21), ARGUMENT);
        due("other calls leave it", told, four);
        due("undo", y -> y.undo(), 0);
        due("undo leaves it", told, four);
        due("changes 4", y -> fedAndRead(y, "changes 4;", "\0"), ARGUMENT);
        due("code 2", told, two);
        x.save();
        x.restore();
        due("restore leaves it", told, two);
        due("empty script", y -> run(y, ""), 0);
        due("behind an empty script", told, none);
        due("$ again", y -> run(y, "$"), ARGUMENT);
        due("code 1 again", told, one);
        due("empty text", y -> read(y, ""), 0);
        due("behind an empty text", told, none);
    }
}
