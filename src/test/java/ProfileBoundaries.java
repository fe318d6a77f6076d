/** The boundary cases of profiles: section 4 and promises 33 to 41. */
final class ProfileBoundaries extends Boundaries {
    /** From place 0 of row a on, improving goes a long way: nine times change something. */
    private static final String LONG = "letters 4;length 3;row a cbabbbbc;row b daababab;row c dbbcddad;row d adbdabcd;"
            + "row e dbcbbaad;row f aaaabadd;row g bdaacbca;row h bdadadaa;row i bccddadd;row j cdbbdcad;";
    private static final int LONG_TIMES = 9;
    private static final int LONG_AGREEMENT = 21;
    private static final int LONG_AGREEMENT_ONCE = 17;

    ProfileBoundaries(Check check, Sentences sentences) {
        super(check, sentences);
    }

    private void refusedRows(String call, int rows, java.util.function.IntFunction<Step> step) {
        for (int row : new int[] {-1, rows, 31, 32, LOW, HIGH}) {
            refused(call + " " + row, step.apply(row), INDEX);
        }
    }

    // ---- section 4

    void section4OnePlace() {
        section(4, "Of each row that is not left out one place can be chosen.");
        text(XYZ, y -> y.choose(0, 0), y -> y.choose(0, 2));
        due("one of one row", y -> y.setting(9), 1);
        due("the latest one", y -> y.row(0, 2), 2);
        x.choose(1, 0);
        x.choose(2, 0);
        due("one of each", y -> y.setting(9), 3);
        x.setOut(0, true);
        due("none of a row that is left out", y -> y.setting(9), 2);
        refused("the first one is chosen", y -> y.choose(2, 1), ARGUMENT);
        text(tenRows("ddd"), y -> y.improve(1));
        due("ten of ten", y -> y.setting(9), 10);
    }

    void section4Profile() {
        section(4, "The profile tells, for each letter of the word (0 to L - 1) and each letter, in how many of the words at"
                + " chosen places it stands there.");
        text("letters 2;length 2;row a ab;row b abb;");
        due("nothing is chosen", y -> y.count(0, 0), 0);
        x.choose(0, 0);
        dueEach("the first letter", -1, k -> y -> y.count(0, k), INDEX, 1, 0, INDEX);
        dueEach("the last letter", -1, k -> y -> y.count(1, k), INDEX, 0, 1, INDEX);
        dueEach("of a", -1, i -> y -> y.count(i, 0), INDEX, 1, 0, INDEX);
        x.choose(1, 1);
        dueEach("of b", 0, i -> y -> y.count(i, 1), 1, 2);
        text("length 6;" + tenRows("dddddd"), y -> y.improve(1));
        due("the greatest", y -> y.count(5, 3), 10);
        due("the least", y -> y.count(5, 2), 0);
    }

    void section4Common() {
        section(4, "The common word has at each of its letters the letter with the greatest count, the lowest one of"
                + " several.");
        text("letters 4;length 2;row a dc;row b cd;", y -> y.choose(0, 0));
        due("of one", y -> y.common(), 14);
        x.choose(1, 0);
        due("the lowest of equal ones", y -> y.common(), 10);
        text("letters 2;length 2;row a ab;row b ba;row c ba;", y -> y.improve(1));
        due("the greatest count goes before", y -> y.common(), 2);
    }

    void section4Agreement() {
        section(4, "The agreement is the sum of these counts.");
        text("letters 4;length 2;row a dc;row b cd;");
        due("nothing is chosen", y -> y.agreement(), 0);
        due("of one", y -> y.choose(0, 0), 2);
        due("all letters differ", y -> y.choose(1, 0), 2);
        text("length 6;" + tenRows("a".repeat(30)), y -> y.improve(1));
        due("the greatest", y -> y.agreement(), 60);
    }

    void section4Weight() {
        section(4, "The weight of a place is the product, over all letters of the word at it, of 1 plus the count of this"
                + " letter there, in the profile of the chosen places of all other rows.");
        text("letters 2;length 2;row a aab;row b aa;");
        due("nothing is chosen", y -> y.weight(0, 0), 1);
        x.choose(0, 0);
        due("the own place does not count", y -> y.weight(0, 0), 1);
        due("the other's does", y -> y.weight(1, 0), 4);
        x.choose(0, 1);
        due("one letter of two", y -> y.weight(1, 0), 2);
        text("length 6;" + tenRows("a".repeat(30)), y -> y.improve(1));
        due("the greatest", y -> y.weight(0, 0), 1000000);
        x.clear(9);
        due("of nine", y -> y.weight(9, 24), 1000000);
        due("of eight others", y -> y.weight(0, 0), 531441);
    }

    void section4Better() {
        section(4, "To better a row means to choose the place of it with the greatest weight, of several the one with the"
                + " least start; if it has no place, none is chosen.");
        text("letters 2;length 2;row a abab;row b ab;row c ba;");
        due("all weigh 1", y -> y.better(0), 0);
        x.choose(1, 0);
        x.choose(0, 2);
        due("two weigh the same, back to the least start", y -> y.better(0), 0);
        x.clear(1);
        x.choose(2, 0);
        due("the one that weighs more", y -> y.better(0), 1);
        text("letters 2;length 2;changes 0;row a ab;row b aab;", y -> y.take(1));
        due("no place", y -> y.better(0), NONE);
        due("none is chosen", y -> y.row(0, 2), NONE);
        due("no place left of b", y -> y.better(1), NONE);
        text("row a ab;");
        due("too short", y -> y.better(0), NONE);
    }

    void section4Improve() {
        section(4, "To improve means to go through all rows that are not left out, by number, and to better each one.");
        // a gets aa, then b ab and c bb; from the last row on, a would get ab and b bb.
        text("letters 2;length 2;row a aab;row b abb;row c bb;", y -> y.improve(1));
        due("by number", y -> reported(y), "a AAb\nb ABb\nc BB\n");
        text("letters 2;length 2;row a aab;row b abb;row c bb;", y -> y.setOut(0, true), y -> y.setOut(2, true),
                y -> y.improve(50));
        due("not those that are left out", y -> reported(y), "-a aab\nb ABb\n-c bb\n");
        text("", y -> y.improve(50));
        due("without rows", y -> y.setting(9), 0);
    }

    // ---- promises 33 to 41

    void promise33Count() {
        promise(33, "- `at`: a letter of the word, 0 to L - 1");
        promise(33, "- `letter`: the number of a letter");
        promise(33, "Returns the count of the profile.");
        promise(33, "Throws `IndexOutOfBoundsException` if at or letter is out of range");
        text("letters 3;length 2;row a cc;", y -> y.choose(0, 0));
        dueEach("at", -1, at -> y -> y.count(at, 2), INDEX, 1, 1, INDEX);
        dueEach("letter", -1, k -> y -> y.count(1, k), INDEX, 0, 0, 1, INDEX);
        for (int wrong : new int[] {-1, 3, LOW, HIGH}) {
            refused("at " + wrong, y -> y.count(wrong, 0), INDEX);
            refused("letter " + wrong, y -> y.count(0, wrong), INDEX);
            refused("both " + wrong, y -> y.count(wrong, wrong), INDEX);
        }
        refused("at 2 of two letters", y -> y.count(2, 0), INDEX);
        text("length 6;row a dddddd;", y -> y.choose(0, 0));
        due("the last of all", y -> y.count(5, 3), 1);
        refused("at 6", y -> y.count(6, 3), INDEX);
        refused("letter 4", y -> y.count(5, 4), INDEX);
    }

    void promise34Common() {
        promise(34, "Returns the common word; NONE if no place is chosen.");
        text("");
        due("without rows", y -> y.common(), NONE);
        text(XYZ);
        due("nothing is chosen", y -> y.common(), NONE);
        x.choose(2, 0);
        due("one place", y -> y.common(), AAC);
        x.clear(2);
        due("nothing any more", y -> y.common(), NONE);
        text("length 6;row a aaaaaa;row b dddddd;", y -> y.choose(0, 0));
        due("the least word", y -> y.common(), 0);
        x.clear(0);
        x.choose(1, 0);
        due("the greatest word", y -> y.common(), 4095);
    }

    void promise35Agreement() {
        promise(35, "Returns the agreement.");
        text("");
        due("without rows", y -> y.agreement(), 0);
        text(XYZ, y -> y.choose(2, 0));
        due("one place", y -> y.agreement(), 3);
        x.setOut(2, true);
        due("it is left out", y -> y.agreement(), 0);
    }

    void promise36Weight() {
        promise(36, "Returns the weight of a place; 0 if this is no place (start: any int).");
        text(XYZ, y -> y.choose(1, 0));
        dueEach("of x", -1, i -> y -> y.weight(0, i), 0, 1, 8, 1, 0, 0, 0);
        for (int start : new int[] {LOW, LOW + 1, -30, 29, 30, 31, 32, HIGH - 2, HIGH}) {
            due("start " + start, y -> y.weight(0, start), 0);
        }
        refusedRows("weight of row", 3, r -> y -> y.weight(r, 0));
        refused("weight of no row, at no place", y -> y.weight(-1, -1), INDEX);
        x.setOut(0, true);
        due("left out", y -> y.weight(0, 1), 0);
        x.take(AAC);
        due("covered", y -> y.weight(2, 0), 0);
    }

    void promise37TryFrom() {
        promise(37, "Returns the agreement that there would be if this place was the only one that is chosen, and it was"
                + " improved then, until improving changes nothing, at most 50 times; NONE if this is no place (start: any"
                + " int).");
        text(XYZ);
        dueEach("of y", -1, i -> y -> y.tryFrom(1, i), NONE, 6, 7, 8, NONE);
        x.choose(0, 1);
        x.choose(2, 0);
        dueEach("of y, whatever is chosen", -1, i -> y -> y.tryFrom(1, i), NONE, 6, 7, 8, NONE);
        x.undo();
        x.undo();
        x.setOut(2, true);
        due("of x, without z", y -> y.tryFrom(0, 1), 6);
        x.undo();
        due("of x, with z", y -> y.tryFrom(0, 1), 8);
        for (int start : new int[] {LOW, LOW + 1, -30, 3, 29, 30, 31, 32, HIGH - 2, HIGH}) {
            due("start " + start, y -> y.tryFrom(0, start), NONE);
        }
        refusedRows("tryFrom of row", 3, r -> y -> y.tryFrom(r, 0));
        refused("tryFrom of no row, at no place", y -> y.tryFrom(3, -1), INDEX);
        due("nothing is chosen by it", y -> y.setting(9), 0);
        due("nothing can be undone", y -> y.undo(), NONE);
        x.setOut(1, true);
        due("left out", y -> y.tryFrom(1, 0), NONE);
        x.take(AAC);
        due("covered", y -> y.tryFrom(2, 0), NONE);
        text("letters 2;length 2;row a ab;");
        due("the only row", y -> y.tryFrom(0, 0), 2);
        // If b and c kept bb, a would get it, too, and only d would have aa.
        text("letters 2;length 2;row a aabb;row b aabb;row c aabb;row d aa;", y -> y.choose(1, 2), y -> y.choose(2, 2));
        due("the only one that is chosen", y -> y.tryFrom(0, 0), 8);
        text("length 6;" + tenRows("a".repeat(30)));
        due("the greatest", y -> y.tryFrom(9, 24), 60);
        text(LONG);
        due("improved to the end", y -> y.tryFrom(0, 0), LONG_AGREEMENT);
        x.choose(0, 0);
        due("improve once", y -> y.improve(1), 1);
        due("improved once", y -> y.agreement(), LONG_AGREEMENT_ONCE);
        due("improve all but once", y -> y.improve(LONG_TIMES - 1), LONG_TIMES - 1);
        due("improved to the end", y -> y.agreement(), LONG_AGREEMENT);
    }

    void promise37FiftyTimes() {
        promise(37, "until improving changes nothing, at most 50 times");
        text(FAR);
        due("a way that goes on", y -> y.tryFrom(0, FAR_START), FAR_AGREEMENTS[1]);
        x.choose(0, FAR_START);
        due("improve 49 times", y -> y.improve(49), 49);
        due("behind 49 times", y -> y.agreement(), FAR_AGREEMENTS[0]);
        x.improve(1);
        due("behind 50 times", y -> y.agreement(), FAR_AGREEMENTS[1]);
        x.improve(1);
        due("behind 51 times", y -> y.agreement(), FAR_AGREEMENTS[2]);
    }

    void promise38BestStart() {
        promise(38, "Returns the start of the place of a row with the greatest tryFrom(), the least one of several; NONE"
                + " without places.");
        text(XYZ + "row w ab;");
        due("the last one of y", y -> y.bestStart(1), 2);
        due("the least of equal ones", y -> y.bestStart(0), 0);
        due("the only one", y -> y.bestStart(2), 0);
        due("too short", y -> y.bestStart(3), NONE);
        refusedRows("bestStart", 4, r -> y -> y.bestStart(r));
        x.setOut(1, true);
        due("left out", y -> y.bestStart(1), NONE);
        x.take(AAC);
        due("covered", y -> y.bestStart(2), NONE);
        text("length 6;" + tenRows("a".repeat(30)));
        due("the least of 25", y -> y.bestStart(9), 0);
        // a gets cc behind aa, cb behind ab, and bb behind bb, the last place of b.
        text("length 2;row a ccbb;row b " + "a".repeat(28) + "bb;");
        dueEach("the last places of the longest row", 26, i -> y -> y.tryFrom(1, i), 2, 3, 4, NONE);
        due("the last one of them", y -> y.bestStart(1), 28);
    }

    void promise39AgreementShare() {
        promise(39, "Returns the agreement as a float, divided by L times the number of rows of which a place is chosen, as a"
                + " float; 0.0f if there is none.");
        text("");
        due("without rows", y -> y.agreementShare(), 0.0f);
        text("letters 4;length 2;row a dc;row b cd;row c cc;");
        due("nothing is chosen", y -> y.agreementShare(), 0.0f);
        x.choose(0, 0);
        due("one", y -> y.agreementShare(), 1.0f);
        x.choose(1, 0);
        due("two that differ", y -> y.agreementShare(), 0.5f);
        x.choose(2, 0);
        due("three", y -> y.agreementShare(), 4.0f / 6.0f);
        x.setOut(0, true);
        due("two", y -> y.agreementShare(), 3.0f / 4.0f);
        x.clear(1);
        x.clear(2);
        due("none any more", y -> y.agreementShare(), 0.0f);
        text("length 6;" + tenRows("a".repeat(30)), y -> y.improve(1));
        due("all agree", y -> y.agreementShare(), 1.0f);
    }

    void promise40MeanDistance() {
        promise(40, "Returns the score of the best word as a double, divided by the number of rows that are not left out, as"
                + " a double; 0.0 without such rows.");
        text("");
        due("without rows", y -> y.meanDistance(), 0.0);
        text(XYZ);
        due("three rows", y -> y.meanDistance(), 1.0 / 3.0);
        x.setOut(0, true);
        due("two rows", y -> y.meanDistance(), 0.5);
        x.setOut(1, true);
        due("one row", y -> y.meanDistance(), 0.0);
        x.take(AAC);
        due("one row without a place", y -> y.meanDistance(), 3.0);
        x.setOut(2, true);
        due("all are left out", y -> y.meanDistance(), 0.0);
        text("length 6;" + tenRows("ab"));
        due("the greatest", y -> y.meanDistance(), 6.0);
    }

    void promise41Least() {
        promise(41, "- `limit`: 0 to 50");
        promise(41, "Returns the least number of times to improve, up to limit, behind which improving once more would change"
                + " nothing; NONE if there is none such.");
        text("");
        due("without rows", y -> y.improvesToEnd(0), 0);
        text("row a ab;");
        due("without places", y -> y.improvesToEnd(0), 0);
        text(XYZ);
        dueEach("of three rows, limit", 0, n -> y -> y.improvesToEnd(n), NONE, 1, 1);
        due("limit 50", y -> y.improvesToEnd(50), 1);
        due("nothing is chosen by it", y -> y.setting(9), 0);
        x.improve(1);
        due("at the end, limit 0", y -> y.improvesToEnd(0), 0);
        due("at the end, limit 50", y -> y.improvesToEnd(50), 0);
        text(LONG, y -> y.choose(0, 0));
        for (int limit = 0; limit <= LONG_TIMES + 1; limit++) {
            int n = limit;
            due("of the long way, limit " + n, y -> y.improvesToEnd(n), n < LONG_TIMES ? NONE : LONG_TIMES);
        }
        due("of the long way, limit 50", y -> y.improvesToEnd(50), LONG_TIMES);
    }

    void promise41FiftyTimes() {
        promise(41, "up to limit, behind which improving once more would change nothing; NONE if there is none such.");
        text(FAR, y -> y.choose(0, FAR_START), y -> y.improve(FAR_TIMES - 51));
        due("51 times, limit 50", y -> y.improvesToEnd(50), NONE);
        x.improve(1);
        due("50 times, limit 50", y -> y.improvesToEnd(50), 50);
        due("50 times, limit 49", y -> y.improvesToEnd(49), NONE);
        x.improve(1);
        due("49 times, limit 50", y -> y.improvesToEnd(50), 49);
        due("49 times, limit 49", y -> y.improvesToEnd(49), 49);
        due("49 times, limit 48", y -> y.improvesToEnd(48), NONE);
    }

    void promise41OutOfRange() {
        promise(41, "Throws `IllegalArgumentException` if limit is out of range");
        text(XYZ);
        for (int limit : new int[] {-1, 51, LOW, HIGH}) {
            refused("limit " + limit, y -> y.improvesToEnd(limit), ARGUMENT);
        }
        text("");
        refused("limit 51 without rows", y -> y.improvesToEnd(51), ARGUMENT);
        due("limit 50", y -> y.improvesToEnd(50), 0);
    }
}
