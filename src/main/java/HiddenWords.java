/** Words that are hidden in rows of letters, with some letters changed. */
public final class HiddenWords {
    /** There is no such value. */
    public static final int NONE = -1;

    private static final int MOST_BYTES = 600;
    private static final int BYTES_OF_A_FEED = 20;
    private static final int MOST_ROWS = 10;
    private static final int MOST_LETTERS = 4;
    private static final int MOST_LENGTH = 6;
    private static final int MOST_CHANGES = 3;
    private static final int MOST_TAKEN = 6;
    private static final int MOST_PAST = 6;
    private static final int MOST_IMPROVES = 50;
    private static final int MOST_COMMANDS_DONE = 40;
    private static final int LONGEST_ROW = 30;
    private static final int LONGEST_NAME = 8;
    /** A minus sign, a name, a space, the letters and a line feed, for each row. */
    private static final int MOST_REPORT_BYTES = MOST_ROWS * (1 + LONGEST_NAME + 1 + LONGEST_ROW + 1);

    private static final int SIX_ARE_TAKEN = 1;
    private static final int NO_ROW_HAS_IT = 2;

    private final Tokens tokens = new Tokens();
    private final TextReader textReader = new TextReader();
    private final Script script = new Script();
    private final Board now = new Board();
    private final Board saved = new Board();
    /** Texts are read into it, and what would be is tried on it, so that the present board stays as it is. */
    private final Board draft = new Board();
    private final Board[] past = new Board[MOST_PAST];
    private final Search search = new Search();
    private final Search searchBehind = new Search();
    private final Profile profile = new Profile();
    private final Tally tally = new Tally();
    private final byte[] reportBytes = new byte[MOST_REPORT_BYTES];
    private int reportSize;
    private int pastCount;
    private boolean isSaved;
    private int commandsDone;

    /** Creates a state as if an empty text was read, with an empty buffer. */
    public HiddenWords() {
        for (int k = 0; k < past.length; k++) {
            past[k] = new Board();
        }
    }

    // ---- texts

    /** Appends the four bytes of each argument to the buffer. */
    public int feed(int a, int b, int c, int d, int e) throws IllegalStateException {
        if (tokens.size > MOST_BYTES - BYTES_OF_A_FEED) {
            throw new IllegalStateException("the buffer is full");
        }
        tokens.append(a);
        tokens.append(b);
        tokens.append(c);
        tokens.append(d);
        tokens.append(e);
        return tokens.size;
    }

    /** Truncates the buffer to n bytes. */
    public int truncate(int n) throws IllegalArgumentException {
        if (n < 0 || n > tokens.size) {
            throw new IllegalArgumentException("no such length of the buffer");
        }
        tokens.size = n;
        return n;
    }

    /** Reads the buffer as a text. */
    public int readText() throws IllegalArgumentException {
        boolean isRight = textReader.read(tokens, draft);
        tokens.size = 0;
        if (!isRight) {
            throw new IllegalArgumentException("the text has an error");
        }
        replaceBoard(draft);
        pastCount = 0;
        return now.rows;
    }

    /** Reads the buffer as a script and runs it. */
    public int runScript() throws IllegalArgumentException {
        boolean isRight = script.read(tokens, now);
        tokens.size = 0;
        if (!isRight) {
            throw new IllegalArgumentException("the script has an error");
        }
        keepPast();
        commandsDone = 0;
        runCommands(0, script.size, 0);
        return commandsDone;
    }

    /** Returns the code of the latest text's or script's error. */
    public int errorCode() {
        return tokens.errorCode;
    }

    /** Returns the position of the latest text's or script's error. */
    public int errorPosition() {
        return tokens.errorPosition;
    }

    // ---- rows, words

    /** Returns a number of the whole state. */
    public int setting(int what) throws IllegalArgumentException {
        switch (what) {
            case 0:
                return now.rows;
            case 1:
                return now.letters;
            case 2:
                return now.length;
            case 3:
                return now.changes;
            case 4:
                return now.wordCount();
            case 5:
                return now.allPlaces();
            case 6:
                return Integer.bitCount(now.out);
            case 7:
                return now.allCovered();
            case 8:
                return now.takenCount;
            case 9:
                return now.chosenRows();
            default:
                throw new IllegalArgumentException("no such setting");
        }
    }

    /** Returns a number of a row. */
    public int row(int row, int what) throws IndexOutOfBoundsException, IllegalArgumentException {
        requireRow(row);
        switch (what) {
            case 0:
                return now.sizes[row];
            case 1:
                return now.placesOf(row);
            case 2:
                return now.chosen[row];
            case 3:
                return now.isOut(row) ? 1 : 0;
            case 4:
                return now.covered[row];
            default:
                throw new IllegalArgumentException("a row has no such number");
        }
    }

    /** Returns a letter of a row, covered or not. */
    public int letter(int row, int i) throws IndexOutOfBoundsException {
        requireRow(row);
        if (i < 0 || i >= now.sizes[row]) {
            throw new IndexOutOfBoundsException("the row has no such letter");
        }
        return now.letterAt(row, i);
    }

    /** Returns the word at a place. */
    public int wordAt(int row, int start) throws IndexOutOfBoundsException {
        requireRow(row);
        return now.isPlace(row, start) ? now.wordOf(now.codeAt(row, start)) : NONE;
    }

    /** Returns by how many letters two words differ. */
    public int differ(int word, int other) throws IndexOutOfBoundsException {
        requireWord(word);
        requireWord(other);
        return Board.differing(now.codeOf(word), now.codeOf(other), now.length);
    }

    /** Returns the distance of a word from a row. */
    public int distance(int row, int word) throws IndexOutOfBoundsException {
        requireRow(row);
        requireWord(word);
        return now.isOut(row) ? NONE : now.nearest(row, now.codeOf(word), now.length);
    }

    /** Returns the score of a word. */
    public int score(int word) throws IndexOutOfBoundsException {
        requireWord(word);
        return now.boundOf(now.codeOf(word), now.length);
    }

    /** Returns the rows that have a word. */
    public int having(int word) throws IndexOutOfBoundsException {
        requireWord(word);
        return now.rowsHaving(now.codeOf(word));
    }

    /** Returns the start of the place of a row that is closest to a word. */
    public int closest(int row, int word) throws IndexOutOfBoundsException {
        requireRow(row);
        requireWord(word);
        return now.nearestStart(row, now.codeOf(word));
    }

    /** Returns the greatest distance of a word from a row. */
    public int spread(int word) throws IndexOutOfBoundsException {
        requireWord(word);
        int code = now.codeOf(word);
        int greatest = NONE;
        for (int r = 0; r < now.rows; r++) {
            if (!now.isOut(r)) {
                greatest = Math.max(greatest, now.nearest(r, code, now.length));
            }
        }
        return greatest;
    }

    /** Returns how many words are at places of both rows. */
    public int shared(int row, int other) throws IndexOutOfBoundsException {
        requireRow(row);
        requireRow(other);
        tally.markShared(now, row, other);
        return tally.marked();
    }

    /** Returns one of the words that are at places of both rows. */
    public int sharedAt(int row, int other, int i) throws IndexOutOfBoundsException {
        requireRow(row);
        requireRow(other);
        tally.markShared(now, row, other);
        return tally.markedAt(i);
    }

    /** Returns at how many places a word differs by no more than the changes. */
    public int hits(int word) throws IndexOutOfBoundsException {
        requireWord(word);
        int code = now.codeOf(word);
        int found = 0;
        for (int r = 0; r < now.rows; r++) {
            for (int start = 0; start <= now.lastStart(r); start++) {
                if (now.isHit(r, start, code)) {
                    found++;
                }
            }
        }
        return found;
    }

    /** Returns a number of one of these places. */
    public int hit(int word, int i, int what) throws IndexOutOfBoundsException, IllegalArgumentException {
        requireWord(word);
        int code = now.codeOf(word);
        int place = now.hitNumber(code, i);
        if (place == NONE) {
            throw new IndexOutOfBoundsException("no such place");
        }
        int row = place / LONGEST_ROW;
        int start = place % LONGEST_ROW;
        switch (what) {
            case 0:
                return row;
            case 1:
                return start;
            case 2:
                return Board.differing(now.codeAt(row, start), code, now.length);
            default:
                throw new IllegalArgumentException("a place has no such number");
        }
    }

    /** Returns how many different words are at places. */
    public int kinds() {
        tally.addAllPlaces(now);
        return tally.marked();
    }

    /** Returns at how many places a word is. */
    public int timesOf(int word) throws IndexOutOfBoundsException {
        requireWord(word);
        tally.addAllPlaces(now);
        return tally.times(word);
    }

    /** Returns the word that is at the most places. */
    public int commonest() {
        tally.addAllPlaces(now);
        return tally.mostMarked();
    }

    // ---- the search, the order

    /** Returns a number of the search. */
    public int best(int what) throws IllegalArgumentException {
        switch (what) {
            case 0:
                return searched().bestWord;
            case 1:
                return searched().bestScore;
            case 2:
                return searched().asked;
            case 3:
                return searched().cut;
            default:
                throw new IllegalArgumentException("the search has no such number");
        }
    }

    /** Returns the bound of the first m letters of a word. */
    public int bound(int word, int m) throws IndexOutOfBoundsException, IllegalArgumentException {
        requireWord(word);
        if (m < 1 || m > now.length) {
            throw new IllegalArgumentException("no such beginning");
        }
        return now.boundOf(now.codeOf(word), m);
    }

    /** Returns the word that the most rows have, or how many these are. */
    public int mostHad(int what) throws IllegalArgumentException {
        if (what < 0 || what > 1) {
            throw new IllegalArgumentException("no such number");
        }
        int word = searched().mostHadWord();
        return what == 0 ? word : Integer.bitCount(now.rowsHaving(now.codeOf(word)));
    }

    /** Returns the best word's score if a row was left out. */
    public int scoreWithout(int row) throws IndexOutOfBoundsException {
        requireRow(row);
        return now.isOut(row) ? searched().bestScore : searched().bestScoreWithout(now, row);
    }

    /** Returns the row without which the best word's score is least. */
    public int outlier() {
        int found = NONE;
        int least = 0;
        for (int r = 0; r < now.rows; r++) {
            if (!now.isOut(r)) {
                int without = searched().bestScoreWithout(now, r);
                if (found == NONE || without < least) {
                    found = r;
                    least = without;
                }
            }
        }
        return found;
    }

    /** Returns the word at a place of the order. */
    public int ranked(int i) {
        return searched().wordOfRank(i);
    }

    /** Returns the place of a word in the order. */
    public int rankOf(int word) throws IndexOutOfBoundsException {
        requireWord(word);
        return searched().rankOfWord(word);
    }

    /** Returns the best word behind taking the best one, or its score. */
    public int second(int what) throws IllegalArgumentException {
        if (what < 0 || what > 1) {
            throw new IllegalArgumentException("no such number");
        }
        int first = searched().bestWord;
        if (now.reasonAgainst(first) != 0) {
            return NONE;
        }
        draft.copyFrom(now);
        draft.cover(first);
        searchBehind.go(draft);
        return what == 0 ? searchBehind.bestWord : searchBehind.bestScore;
    }

    // ---- profiles

    /** Returns a count of the profile. */
    public int count(int at, int letter) throws IndexOutOfBoundsException {
        if (at < 0 || at >= now.length || letter < 0 || letter >= now.letters) {
            throw new IndexOutOfBoundsException("the profile has no such count");
        }
        profile.fill(now, NONE);
        return profile.countOf(at, letter);
    }

    /** Returns the common word. */
    public int common() {
        if (now.chosenRows() == 0) {
            return NONE;
        }
        profile.fill(now, NONE);
        return now.wordOf(profile.commonCode());
    }

    /** Returns the agreement. */
    public int agreement() {
        return profile.agreementOf(now);
    }

    /** Returns the weight of a place. */
    public int weight(int row, int start) throws IndexOutOfBoundsException {
        requireRow(row);
        if (!now.isPlace(row, start)) {
            return 0;
        }
        profile.fill(now, row);
        return profile.weightOf(now.codeAt(row, start));
    }

    /** Returns the agreement to which a place leads. */
    public int tryFrom(int row, int start) throws IndexOutOfBoundsException {
        requireRow(row);
        return now.isPlace(row, start) ? agreementFrom(row, start) : NONE;
    }

    /** Returns the start of the place of a row that leads to the greatest agreement. */
    public int bestStart(int row) throws IndexOutOfBoundsException {
        requireRow(row);
        int found = NONE;
        int greatest = NONE;
        for (int start = 0; start <= now.lastStart(row); start++) {
            if (now.isPlace(row, start)) {
                int agreed = agreementFrom(row, start);
                if (agreed > greatest) {
                    found = start;
                    greatest = agreed;
                }
            }
        }
        return found;
    }

    /** Returns the agreement as a share of what it could be. */
    public float agreementShare() {
        int most = now.length * now.chosenRows();
        return most > 0 ? (float) agreement() / (float) most : 0.0f;
    }

    /** Returns the best word's score, divided by the rows. */
    public double meanDistance() {
        int rowsIn = now.rows - Integer.bitCount(now.out);
        return rowsIn > 0 ? (double) searched().bestScore / (double) rowsIn : 0.0;
    }

    /** Returns how often to improve until nothing would change any more. */
    public int improvesToEnd(int limit) throws IllegalArgumentException {
        if (limit < 0 || limit > MOST_IMPROVES) {
            throw new IllegalArgumentException("no such limit");
        }
        draft.copyFrom(now);
        for (int k = 0; k <= limit; k++) {
            if (!profile.improveOnce(draft)) {
                return k;
            }
        }
        return NONE;
    }

    // ---- changes

    /** Chooses a place of a row. */
    public int choose(int row, int start) throws IndexOutOfBoundsException, IllegalArgumentException {
        requireRow(row);
        if (!now.isPlace(row, start)) {
            throw new IllegalArgumentException("this is no place");
        }
        keepPast();
        now.chosen[row] = start;
        return agreement();
    }

    /** Chooses no place of a row any more. */
    public int clear(int row) throws IndexOutOfBoundsException, IllegalStateException {
        requireRow(row);
        int start = now.chosen[row];
        if (start == NONE) {
            throw new IllegalStateException("no place of the row is chosen");
        }
        keepPast();
        now.chosen[row] = NONE;
        return start;
    }

    /** Betters a row. */
    public int better(int row) throws IndexOutOfBoundsException, IllegalStateException {
        requireRow(row);
        if (now.isOut(row)) {
            throw new IllegalStateException("the row is left out");
        }
        keepPast();
        profile.betterRow(now, row);
        return now.chosen[row];
    }

    /** Improves until nothing changes. */
    public int improve(int most) throws IllegalArgumentException {
        if (!isCountOfImproves(most)) {
            throw new IllegalArgumentException("no such number of times");
        }
        keepPast();
        return profile.improveAtMost(now, most);
    }

    /** Takes a word. */
    public int take(int word) throws IndexOutOfBoundsException, IllegalStateException {
        requireWord(word);
        if (now.reasonAgainst(word) != 0) {
            throw new IllegalStateException("the word cannot be taken");
        }
        keepPast();
        forgetSearches();
        return now.cover(word);
    }

    /** Takes the best word. */
    public int takeBest() throws IllegalStateException {
        int word = searched().bestWord;
        if (now.reasonAgainst(word) != 0) {
            throw new IllegalStateException("the best word cannot be taken");
        }
        keepPast();
        forgetSearches();
        now.cover(word);
        return word;
    }

    /** Returns why a word cannot be taken. */
    public int whyNotTake(int word) throws IndexOutOfBoundsException {
        requireWord(word);
        return now.reasonAgainst(word);
    }

    /** Returns a word that was taken. */
    public int taken(int i) {
        return i >= 0 && i < now.takenCount ? now.takenWords[i] : NONE;
    }

    /** Leaves a row out, or not. */
    public int setOut(int row, boolean isOut) throws IndexOutOfBoundsException, IllegalStateException {
        requireRow(row);
        if (now.isOut(row) == isOut) {
            throw new IllegalStateException("it is so already");
        }
        keepPast();
        putOut(row, isOut);
        return Integer.bitCount(now.out);
    }

    /** Sets the changes. */
    public int setChanges(int changes) throws IllegalArgumentException {
        if (!isCountOfChanges(changes)) {
            throw new IllegalArgumentException("no such number of changes");
        }
        keepPast();
        int before = now.changes;
        putChanges(changes);
        return before;
    }

    // ---- reports, undo, a saved state

    /** Writes a report. */
    public int report() {
        reportSize = 0;
        for (int r = 0; r < now.rows; r++) {
            if (now.isOut(r)) {
                writeByte('-');
            }
            writeName(now.names[r]);
            writeByte(' ');
            for (int i = 0; i < now.sizes[r]; i++) {
                writeByte(signOf(r, i));
            }
            writeByte('\n');
        }
        return reportSize;
    }

    /** Returns a byte of the latest report. */
    public int reportByte(int i) throws IndexOutOfBoundsException {
        if (i < 0 || i >= reportSize) {
            throw new IndexOutOfBoundsException("the report has no such byte");
        }
        return reportBytes[i];
    }

    /** Undoes the latest call that can be undone. */
    public int undo() {
        if (pastCount == 0) {
            return NONE;
        }
        pastCount--;
        replaceBoard(past[pastCount]);
        return pastCount;
    }

    /** Saves the state. */
    public int save() {
        saved.copyFrom(now);
        isSaved = true;
        return now.rows;
    }

    /** Restores what was saved. */
    public int restore() throws IllegalStateException {
        if (!isSaved) {
            throw new IllegalStateException("nothing was saved");
        }
        replaceBoard(saved);
        pastCount = 0;
        return now.rows;
    }

    // ---- what the calls share

    private void requireRow(int row) {
        if (row < 0 || row >= now.rows) {
            throw new IndexOutOfBoundsException("no such row");
        }
    }

    private void requireWord(int word) {
        if (word < 0 || word >= now.wordCount()) {
            throw new IndexOutOfBoundsException("no such word");
        }
    }

    private Search searched() {
        search.go(now);
        return search;
    }

    private void replaceBoard(Board other) {
        now.copyFrom(other);
        forgetSearches();
    }

    /** To be called when places, rows that are left out or the changes become others. */
    private void forgetSearches() {
        search.forget();
        searchBehind.forget();
    }

    /** To be called before a change is made; the oldest board makes room if there are six. */
    private void keepPast() {
        if (pastCount == MOST_PAST) {
            Board oldest = past[0];
            for (int k = 1; k < MOST_PAST; k++) {
                past[k - 1] = past[k];
            }
            pastCount = MOST_PAST - 1;
            past[pastCount] = oldest;
        }
        past[pastCount].copyFrom(now);
        pastCount++;
    }

    private int agreementFrom(int row, int start) {
        draft.copyFrom(now);
        for (int r = 0; r < draft.rows; r++) {
            draft.chosen[r] = NONE;
        }
        draft.chosen[row] = start;
        profile.improveAtMost(draft, MOST_IMPROVES);
        return profile.agreementOf(draft);
    }

    private static boolean isCountOfImproves(int most) {
        return most >= 1 && most <= MOST_IMPROVES;
    }

    private static boolean isCountOfChanges(int changes) {
        return changes >= 0 && changes <= MOST_CHANGES;
    }

    private void putOut(int row, boolean isOut) {
        forgetSearches();
        now.out = isOut ? now.out | 1 << row : now.out & ~(1 << row);
        now.chosen[row] = NONE;
    }

    private void putChanges(int changes) {
        forgetSearches();
        now.changes = changes;
    }

    /** Runs the commands from one to before another; false if the script ends early. */
    private boolean runCommands(int from, int end, int depth) {
        if (depth > Script.MOST_DEPTH) {
            return false;
        }
        int at = from;
        for (int steps = 0; steps < Script.MOST_COMMANDS && at < end; steps++) {
            if (script.kinds[at] == Script.REPEAT) {
                for (int k = 0; k < script.numbers[at]; k++) {
                    if (!runCommands(at + 1, script.behind(at), depth + 1)) {
                        return false;
                    }
                }
            } else {
                if (commandsDone == MOST_COMMANDS_DONE || !runCommand(at)) {
                    return false;
                }
                commandsDone++;
            }
            at = script.behind(at);
        }
        return true;
    }

    /** Does one command; false, and nothing changes, if its method would throw. */
    private boolean runCommand(int at) {
        int row = script.rows[at];
        int number = script.numbers[at];
        switch (script.kinds[at]) {
            case Script.CHOOSE:
                return runChoose(row, number);
            case Script.CLEAR:
                return runClear(row);
            case Script.BETTER:
                return runBetter(row);
            case Script.IMPROVE:
                return isCountOfImproves(number) && profile.improveAtMost(now, number) > 0;
            case Script.TAKE:
                forgetSearches();
                return now.cover(number) > 0;
            case Script.BEST:
                search.go(now);
                forgetSearches();
                return now.cover(search.bestWord) > 0;
            case Script.OUT:
                return runOut(row, true);
            case Script.IN:
                return runOut(row, false);
            case Script.CHANGES:
                return runChanges(number);
            default:
                return false;
        }
    }

    private boolean runChoose(int row, int start) {
        boolean canBe = now.isPlace(row, start);
        if (canBe) {
            now.chosen[row] = start;
        }
        return canBe;
    }

    private boolean runClear(int row) {
        boolean canBe = now.chosen[row] != NONE;
        now.chosen[row] = NONE;
        return canBe;
    }

    private boolean runBetter(int row) {
        boolean canBe = !now.isOut(row);
        if (canBe) {
            profile.betterRow(now, row);
        }
        return canBe;
    }

    private boolean runOut(int row, boolean isOut) {
        boolean canBe = now.isOut(row) != isOut;
        if (canBe) {
            putOut(row, isOut);
        }
        return canBe;
    }

    private boolean runChanges(int changes) {
        boolean canBe = isCountOfChanges(changes);
        if (canBe) {
            putChanges(changes);
        }
        return canBe;
    }

    private void writeByte(int sign) {
        if (reportSize < reportBytes.length) {
            reportBytes[reportSize] = (byte) sign;
            reportSize++;
        }
    }

    private void writeName(long name) {
        for (int i = 0; i < LONGEST_NAME; i++) {
            int sign = Board.signOfName(name, i);
            if (sign != 0) {
                writeByte(sign);
            }
        }
    }

    private int signOf(int row, int i) {
        if ((now.covered[row] >>> i & 1) != 0) {
            return '*';
        }
        int start = now.chosen[row];
        boolean isChosen = start != NONE && i >= start && i < start + now.length;
        return (isChosen ? 'A' : 'a') + now.letterAt(row, i);
    }

    /**
     * What a text tells, and what the changes made of it.
     *
     * The letters of a row or of a word stand in one number, its code: two bits a letter, the first
     * letter lowest, so that letters of a row are compared with those of a word all at once.
     */
    private static final class Board {
        private static final int BITS_OF_A_LETTER = 2;
        private static final int LOW_BITS = 0x55555555;
        private static final int BITS_OF_A_SIGN = 8;

        int letters = 4;
        int length = 3;
        int changes = 1;
        int rows;
        int out;
        int takenCount;
        final long[] names = new long[MOST_ROWS];
        final long[] codes = new long[MOST_ROWS];
        final int[] sizes = new int[MOST_ROWS];
        final int[] covered = new int[MOST_ROWS];
        final int[] chosen = new int[MOST_ROWS];
        final int[] takenWords = new int[MOST_TAKEN];

        void empty() {
            letters = 4;
            length = 3;
            changes = 1;
            rows = 0;
            out = 0;
            takenCount = 0;
        }

        void copyFrom(Board other) {
            letters = other.letters;
            length = other.length;
            changes = other.changes;
            rows = other.rows;
            out = other.out;
            takenCount = other.takenCount;
            for (int r = 0; r < MOST_ROWS; r++) {
                names[r] = other.names[r];
                codes[r] = other.codes[r];
                sizes[r] = other.sizes[r];
                covered[r] = other.covered[r];
                chosen[r] = other.chosen[r];
            }
            for (int k = 0; k < MOST_TAKEN; k++) {
                takenWords[k] = other.takenWords[k];
            }
        }

        void addRow(long name, long code, int size) {
            if (rows < MOST_ROWS) {
                names[rows] = name;
                codes[rows] = code;
                sizes[rows] = size;
                covered[rows] = 0;
                chosen[rows] = NONE;
                rows++;
            }
        }

        /** A name is a number that has the signs of its letters as bytes, the first one lowest. */
        static long withSign(long name, int i, int sign) {
            return name | (long) sign << BITS_OF_A_SIGN * i;
        }

        static int signOfName(long name, int i) {
            return (int) (name >>> BITS_OF_A_SIGN * i) & 0xff;
        }

        int rowNamed(long name) {
            for (int r = 0; r < rows; r++) {
                if (names[r] == name) {
                    return r;
                }
            }
            return NONE;
        }

        static long withLetter(long code, int i, int letter) {
            return code | (long) letter << BITS_OF_A_LETTER * i;
        }

        static int letterOf(int code, int i) {
            return code >>> BITS_OF_A_LETTER * i & 3;
        }

        int letterAt(int row, int i) {
            return (int) (codes[row] >>> BITS_OF_A_LETTER * i) & 3;
        }

        int wordCount() {
            int words = 1;
            for (int i = 0; i < length; i++) {
                words *= letters;
            }
            return words;
        }

        int codeOf(int word) {
            // There are never fewer than two letters; this only shows that the divisor is not 0.
            int base = Math.max(2, letters);
            int code = 0;
            int rest = word;
            for (int i = length - 1; i >= 0; i--) {
                code |= rest % base << BITS_OF_A_LETTER * i;
                rest /= base;
            }
            return code;
        }

        int wordOf(int code) {
            int word = 0;
            for (int i = 0; i < length; i++) {
                word = word * letters + letterOf(code, i);
            }
            return word;
        }

        /** By how many of their first m letters two codes differ. */
        static int differing(int code, int other, int m) {
            int unlike = (code ^ other) & (1 << BITS_OF_A_LETTER * m) - 1;
            return Integer.bitCount((unlike | unlike >>> 1) & LOW_BITS);
        }

        boolean isOut(int row) {
            return (out >>> row & 1) != 0;
        }

        int lastStart(int row) {
            return sizes[row] - length;
        }

        private int lettersFrom(int start) {
            return (1 << length) - 1 << start;
        }

        boolean isPlace(int row, int start) {
            return start >= 0 && start <= lastStart(row) && !isOut(row) && (covered[row] & lettersFrom(start)) == 0;
        }

        int codeAt(int row, int start) {
            return (int) (codes[row] >>> BITS_OF_A_LETTER * start) & (1 << BITS_OF_A_LETTER * length) - 1;
        }

        int placesOf(int row) {
            int places = 0;
            for (int start = 0; start <= lastStart(row); start++) {
                if (isPlace(row, start)) {
                    places++;
                }
            }
            return places;
        }

        int allPlaces() {
            int places = 0;
            for (int r = 0; r < rows; r++) {
                places += placesOf(r);
            }
            return places;
        }

        int allCovered() {
            int letterCount = 0;
            for (int r = 0; r < rows; r++) {
                letterCount += Integer.bitCount(covered[r]);
            }
            return letterCount;
        }

        int chosenRows() {
            int rowCount = 0;
            for (int r = 0; r < rows; r++) {
                if (chosen[r] != NONE) {
                    rowCount++;
                }
            }
            return rowCount;
        }

        /** The least number of the first m letters by which a code differs at a place of a row; m without places. */
        int nearest(int row, int code, int m) {
            int least = m;
            for (int start = 0; start <= lastStart(row); start++) {
                if (isPlace(row, start)) {
                    least = Math.min(least, differing(codeAt(row, start), code, m));
                }
            }
            return least;
        }

        int nearestStart(int row, int code) {
            int found = NONE;
            int least = 0;
            for (int start = 0; start <= lastStart(row); start++) {
                if (isPlace(row, start)) {
                    int unlike = differing(codeAt(row, start), code, length);
                    if (found == NONE || unlike < least) {
                        found = start;
                        least = unlike;
                    }
                }
            }
            return found;
        }

        int boundOf(int code, int m) {
            int sum = 0;
            for (int r = 0; r < rows; r++) {
                if (!isOut(r)) {
                    sum += nearest(r, code, m);
                }
            }
            return sum;
        }

        int rowsHaving(int code) {
            int having = 0;
            for (int r = 0; r < rows; r++) {
                if (!isOut(r) && nearest(r, code, length) <= changes) {
                    having |= 1 << r;
                }
            }
            return having;
        }

        boolean isHit(int row, int start, int code) {
            return isPlace(row, start) && differing(codeAt(row, start), code, length) <= changes;
        }

        /** Hit i of a code as one number: LONGEST_ROW times its row, and its start; NONE without it. */
        int hitNumber(int code, int i) {
            int before = 0;
            for (int r = 0; r < rows; r++) {
                for (int start = 0; start <= lastStart(r); start++) {
                    if (isHit(r, start, code)) {
                        if (before == i) {
                            return LONGEST_ROW * r + start;
                        }
                        before++;
                    }
                }
            }
            return NONE;
        }

        int reasonAgainst(int word) {
            if (takenCount >= MOST_TAKEN) {
                return SIX_ARE_TAKEN;
            }
            return rowsHaving(codeOf(word)) == 0 ? NO_ROW_HAS_IT : 0;
        }

        /** Takes a word and returns how many rows had it; 0, and nothing changes, if it cannot be taken. */
        int cover(int word) {
            int code = codeOf(word);
            int having = takenCount < MOST_TAKEN ? rowsHaving(code) : 0;
            if (having == 0) {
                return 0;
            }
            takenWords[takenCount] = word;
            takenCount++;
            for (int r = 0; r < rows; r++) {
                int start = (having >>> r & 1) != 0 ? nearestStart(r, code) : NONE;
                if (start != NONE) {
                    covered[r] |= lettersFrom(start);
                }
                if (chosen[r] != NONE && !isPlace(r, chosen[r])) {
                    chosen[r] = NONE;
                }
            }
            return Integer.bitCount(having);
        }
    }

    /** The scores and bounds of all words and beginnings of a board, and what the search finds with them. */
    private static final class Search {
        private static final int MOST_SCORES = MOST_ROWS * MOST_LENGTH + 1;

        /** How far each word, or each beginning, is from one row. */
        private int[] near = new int[0];
        /** The bounds of all beginnings of one letter, behind them those of two letters, and so on. */
        private int[] bounds = new int[0];
        /** How many rows have each word. */
        private int[] haveCounts = new int[0];
        /** Where the bounds of the beginnings of m letters start. */
        private final int[] levels = new int[MOST_LENGTH + 1];
        /** How many words have each score. */
        private final int[] scoreCounts = new int[MOST_SCORES];
        private int letters;
        private int length;
        private int words;
        private boolean isDone;
        int bestWord;
        int bestScore;
        int asked;
        int cut;

        void forget() {
            isDone = false;
        }

        /** Searches a board, if it was not searched since the latest forget(). */
        void go(Board board) {
            if (isDone) {
                return;
            }
            makeRoom(board);
            for (int r = 0; r < board.rows; r++) {
                if (!board.isOut(r)) {
                    fillNear(board, r);
                    addBounds(board.changes);
                }
            }
            countScores();
            bestWord = NONE;
            bestScore = 0;
            asked = 0;
            cut = 0;
            for (int x = 0; x < letters; x++) {
                ask(1, x);
            }
            isDone = true;
        }

        private void makeRoom(Board board) {
            letters = board.letters;
            length = board.length;
            int beginnings = 0;
            words = 1;
            for (int m = 1; m <= length; m++) {
                levels[m] = beginnings;
                words *= letters;
                beginnings += words;
            }
            if (near.length < words) {
                near = new int[words];
                haveCounts = new int[words];
            }
            if (bounds.length < beginnings) {
                bounds = new int[beginnings];
            }
            for (int k = 0; k < beginnings; k++) {
                bounds[k] = 0;
            }
            for (int w = 0; w < words; w++) {
                haveCounts[w] = 0;
            }
        }

        /** Adds to the bounds of all beginnings how near the row is that was filled in. */
        private void addBounds(int changes) {
            for (int w = 0; w < words; w++) {
                bounds[levels[length] + w] += near[w];
                if (near[w] <= changes) {
                    haveCounts[w]++;
                }
            }
            int beginnings = words;
            for (int m = length - 1; m >= 1; m--) {
                beginnings /= Math.max(2, letters);
                for (int b = 0; b < beginnings; b++) {
                    // A beginning is as near as the nearest that goes on with it; without places it is at m.
                    near[b] = Math.min(m, nearestOf(b * letters, 1));
                    bounds[levels[m] + b] += near[b];
                }
            }
        }

        /** Fills in how far each word is from a row. */
        private void fillNear(Board board, int row) {
            for (int w = 0; w < words; w++) {
                near[w] = length;
            }
            for (int start = 0; start <= board.lastStart(row); start++) {
                if (board.isPlace(row, start)) {
                    near[board.wordOf(board.codeAt(row, start))] = 0;
                }
            }
            int step = 1;
            for (int i = 0; i < length; i++) {
                changeOneLetter(step);
                step *= letters;
            }
        }

        /** Lets every word be one farther than those that differ from it only by the letter that counts 'step'. */
        private void changeOneLetter(int step) {
            int block = Math.max(1, step * letters);
            for (int high = 0; high < words; high += block) {
                for (int low = high; low < high + step; low++) {
                    int farthest = nearestOf(low, step) + 1;
                    for (int x = 0; x < letters; x++) {
                        near[low + x * step] = Math.min(farthest, near[low + x * step]);
                    }
                }
            }
        }

        private int nearestOf(int first, int step) {
            int least = near[first];
            for (int x = 1; x < letters; x++) {
                least = Math.min(least, near[first + x * step]);
            }
            return least;
        }

        private void countScores() {
            for (int s = 0; s < MOST_SCORES; s++) {
                scoreCounts[s] = 0;
            }
            for (int w = 0; w < words; w++) {
                scoreCounts[scoreOf(w)]++;
            }
        }

        private int scoreOf(int word) {
            return bounds[levels[length] + word];
        }

        /** Asks a beginning of m letters; m is also the depth, which the length limits. */
        private void ask(int m, int beginning) {
            int bound = bounds[levels[m] + beginning];
            asked++;
            if (bestWord != NONE && bound >= bestScore) {
                cut++;
            } else if (m >= length) {
                bestWord = beginning;
                bestScore = bound;
            } else {
                for (int x = 0; x < letters; x++) {
                    ask(m + 1, beginning * letters + x);
                }
            }
        }

        int mostHadWord() {
            int found = 0;
            for (int w = 1; w < words; w++) {
                boolean isMore = haveCounts[w] > haveCounts[found];
                boolean isEarlier = haveCounts[w] == haveCounts[found] && scoreOf(w) < scoreOf(found);
                if (isMore || isEarlier) {
                    found = w;
                }
            }
            return found;
        }

        int bestScoreWithout(Board board, int row) {
            fillNear(board, row);
            int least = MOST_SCORES;
            for (int w = 0; w < words; w++) {
                least = Math.min(least, scoreOf(w) - near[w]);
            }
            return least;
        }

        int wordOfRank(int i) {
            if (i < 0 || i >= words) {
                return NONE;
            }
            int rest = i;
            int wanted = 0;
            while (wanted < MOST_SCORES - 1 && rest >= scoreCounts[wanted]) {
                rest -= scoreCounts[wanted];
                wanted++;
            }
            for (int w = 0; w < words; w++) {
                if (scoreOf(w) == wanted) {
                    if (rest == 0) {
                        return w;
                    }
                    rest--;
                }
            }
            return NONE;
        }

        int rankOfWord(int word) {
            int own = scoreOf(word);
            int before = 0;
            for (int s = 0; s < own; s++) {
                before += scoreCounts[s];
            }
            for (int w = 0; w < word; w++) {
                if (scoreOf(w) == own) {
                    before++;
                }
            }
            return before;
        }
    }

    /** How often letters stand at the chosen places of a board. */
    private static final class Profile {
        private final int[] counts = new int[MOST_LENGTH * MOST_LETTERS];
        private int letters;
        private int length;

        /** Counts the chosen places of all rows but one (NONE: of all). */
        void fill(Board board, int except) {
            letters = board.letters;
            length = board.length;
            for (int k = 0; k < counts.length; k++) {
                counts[k] = 0;
            }
            for (int r = 0; r < board.rows; r++) {
                if (r != except && board.chosen[r] != NONE) {
                    int code = board.codeAt(r, board.chosen[r]);
                    for (int at = 0; at < length; at++) {
                        counts[MOST_LETTERS * at + Board.letterOf(code, at)]++;
                    }
                }
            }
        }

        int countOf(int at, int letter) {
            return counts[MOST_LETTERS * at + letter];
        }

        private int commonLetter(int at) {
            int found = 0;
            for (int x = 1; x < letters; x++) {
                if (countOf(at, x) > countOf(at, found)) {
                    found = x;
                }
            }
            return found;
        }

        int commonCode() {
            long code = 0;
            for (int at = 0; at < length; at++) {
                code = Board.withLetter(code, at, commonLetter(at));
            }
            return (int) code;
        }

        int agreementOf(Board board) {
            fill(board, NONE);
            int sum = 0;
            for (int at = 0; at < length; at++) {
                sum += countOf(at, commonLetter(at));
            }
            return sum;
        }

        int weightOf(int code) {
            int product = 1;
            for (int at = 0; at < length; at++) {
                product *= 1 + countOf(at, Board.letterOf(code, at));
            }
            return product;
        }

        /** Betters a row; true if another place of it (or none any more) is chosen then. */
        boolean betterRow(Board board, int row) {
            fill(board, row);
            int found = NONE;
            int greatest = 0;
            for (int start = 0; start <= board.lastStart(row); start++) {
                if (board.isPlace(row, start)) {
                    int heavy = weightOf(board.codeAt(row, start));
                    if (heavy > greatest) {
                        found = start;
                        greatest = heavy;
                    }
                }
            }
            boolean isChange = board.chosen[row] != found;
            board.chosen[row] = found;
            return isChange;
        }

        /** Improves once; true if this changed anything. */
        boolean improveOnce(Board board) {
            boolean isChange = false;
            for (int r = 0; r < board.rows; r++) {
                if (!board.isOut(r) && betterRow(board, r)) {
                    isChange = true;
                }
            }
            return isChange;
        }

        /** Improves until nothing changes, at most so often; returns how often. */
        int improveAtMost(Board board, int most) {
            for (int times = 1; times < most; times++) {
                if (!improveOnce(board)) {
                    return times;
                }
            }
            improveOnce(board);
            return most;
        }
    }

    /** At how many places the words are, or other marks that they got. */
    private static final class Tally {
        private int[] marks = new int[0];
        private int words;

        private void start(Board board) {
            words = board.wordCount();
            if (marks.length < words) {
                marks = new int[words];
            }
            for (int w = 0; w < words; w++) {
                marks[w] = 0;
            }
        }

        void addAllPlaces(Board board) {
            start(board);
            for (int r = 0; r < board.rows; r++) {
                for (int start = 0; start <= board.lastStart(r); start++) {
                    if (board.isPlace(r, start)) {
                        marks[board.wordOf(board.codeAt(r, start))]++;
                    }
                }
            }
        }

        /** Marks the words at places of both rows. */
        void markShared(Board board, int row, int other) {
            start(board);
            raiseMarks(board, row, 1);
            raiseMarks(board, other, 2);
            for (int w = 0; w < words; w++) {
                marks[w] = marks[w] == 2 ? 1 : 0;
            }
        }

        /** Gives a mark to the words at places of a row that have the mark below it or this one. */
        private void raiseMarks(Board board, int row, int mark) {
            for (int start = 0; start <= board.lastStart(row); start++) {
                if (board.isPlace(row, start)) {
                    int word = board.wordOf(board.codeAt(row, start));
                    if (marks[word] == mark - 1) {
                        marks[word] = mark;
                    }
                }
            }
        }

        int marked() {
            int found = 0;
            for (int w = 0; w < words; w++) {
                if (marks[w] != 0) {
                    found++;
                }
            }
            return found;
        }

        int markedAt(int i) {
            int before = 0;
            for (int w = 0; w < words; w++) {
                if (marks[w] != 0) {
                    if (before == i) {
                        return w;
                    }
                    before++;
                }
            }
            return NONE;
        }

        int times(int word) {
            return marks[word];
        }

        int mostMarked() {
            int found = NONE;
            int most = 0;
            for (int w = 0; w < words; w++) {
                if (marks[w] > most) {
                    found = w;
                    most = marks[w];
                }
            }
            return found;
        }
    }

    /** The buffer, its tokens one by one, and the first error that was found in them. */
    private static final class Tokens {
        static final int END = 0;
        static final int WORD = 1;
        static final int NUMBER = 2;
        static final int MARK = 3;
        static final int INVALID = 4;

        private static final int LONGEST_WORD = 30;
        private static final int LONGEST_NUMBER = 3;

        private final byte[] bytes = new byte[MOST_BYTES];
        int size;
        int kind;
        int number;
        private int start;
        private int end;
        int errorCode;
        int errorPosition = NONE;

        void append(int four) {
            for (int shift = 24; shift >= 0 && size < MOST_BYTES; shift -= 8) {
                bytes[size] = (byte) (four >>> shift);
                size++;
            }
        }

        /** Goes to the first token; there is no error yet. */
        void begin() {
            errorCode = 0;
            errorPosition = NONE;
            end = 0;
            next();
        }

        void next() {
            start = end;
            while (start < size && isBlank(bytes[start])) {
                start++;
            }
            end = start;
            if (start >= size) {
                kind = END;
            } else if (isLetter(bytes[start])) {
                readWord();
            } else if (isDigit(bytes[start])) {
                readNumber();
            } else {
                kind = isSingle(bytes[start]) ? MARK : INVALID;
                end = start + 1;
            }
        }

        private void readWord() {
            while (end < size && isLetter(bytes[end])) {
                end++;
            }
            kind = end - start > LONGEST_WORD ? INVALID : WORD;
        }

        private void readNumber() {
            number = 0;
            while (end < size && isDigit(bytes[end])) {
                // A longer run is invalid whatever its number is, so that this may wrap around.
                number = 10 * number + bytes[end] - '0';
                end++;
            }
            kind = end - start > LONGEST_NUMBER ? INVALID : NUMBER;
        }

        private static boolean isBlank(int sign) {
            return sign == ' ' || sign == '\n';
        }

        private static boolean isLetter(int sign) {
            return sign >= 'a' && sign <= 'z';
        }

        private static boolean isDigit(int sign) {
            return sign >= '0' && sign <= '9';
        }

        private static boolean isSingle(int sign) {
            return sign == ';' || sign == '(' || sign == ')';
        }

        /** Tells of an error at this token, if there was none before. */
        void fail(int code) {
            if (errorCode == 0) {
                errorCode = code;
                errorPosition = start;
            }
        }

        boolean isMark(char mark) {
            return kind == MARK && start < size && bytes[start] == mark;
        }

        boolean isWord(String word) {
            if (kind != WORD || word.length() != end - start) {
                return false;
            }
            for (int i = 0; i < word.length(); i++) {
                if (signAt(i) != word.charAt(i)) {
                    return false;
                }
            }
            return true;
        }

        int wordSize() {
            return kind == WORD ? end - start : 0;
        }

        private int signAt(int i) {
            return start + i < size ? bytes[start + i] : 0;
        }

        /** The code of this word; NONE if it has a letter that there is not. */
        long wordCode(int letters) {
            long code = 0;
            for (int i = 0; i < wordSize(); i++) {
                int letter = signAt(i) - 'a';
                if (letter >= letters) {
                    return NONE;
                }
                code = Board.withLetter(code, i, letter);
            }
            return code;
        }

        /** This word as a name; 0 if it is none. */
        long nameCode() {
            if (wordSize() > LONGEST_NAME) {
                return 0;
            }
            long name = 0;
            for (int i = 0; i < wordSize(); i++) {
                name = Board.withSign(name, i, signAt(i));
            }
            return name;
        }

        /** Goes behind a mark that must stand here. */
        void passMark(char mark) {
            if (isMark(mark)) {
                next();
            } else {
                fail(1);
            }
        }

        /** Goes behind a number that must stand here, and returns it. */
        int passNumber(int least, int most) {
            int found = number;
            if (kind != NUMBER) {
                fail(1);
            } else if (found < least || found > most) {
                fail(2);
            } else {
                next();
            }
            return found;
        }
    }

    /** Reads a text into a board. */
    private static final class TextReader {
        private static final int LETTERS = 1;
        private static final int LENGTH = 2;
        private static final int CHANGES = 4;

        /** The kinds of statements that may stand once and stood already, as a sum. */
        private int seen;

        /** False if the text has an error; the board is of no use then. */
        boolean read(Tokens tokens, Board board) {
            seen = 0;
            board.empty();
            tokens.begin();
            for (int k = 0; k < MOST_BYTES && tokens.errorCode == 0 && tokens.kind != Tokens.END; k++) {
                readStatement(tokens, board);
                tokens.passMark(';');
            }
            return tokens.errorCode == 0;
        }

        private void readStatement(Tokens tokens, Board board) {
            if (tokens.isWord("letters")) {
                if (board.rows > 0) {
                    tokens.fail(4);
                }
                board.letters = readSetting(tokens, LETTERS, 2, MOST_LETTERS);
            } else if (tokens.isWord("length")) {
                board.length = readSetting(tokens, LENGTH, 2, MOST_LENGTH);
            } else if (tokens.isWord("changes")) {
                board.changes = readSetting(tokens, CHANGES, 0, MOST_CHANGES);
            } else if (tokens.isWord("row")) {
                readRow(tokens, board);
            } else {
                tokens.fail(1);
            }
        }

        private int readSetting(Tokens tokens, int kind, int least, int most) {
            if ((seen & kind) != 0) {
                tokens.fail(4);
            }
            seen |= kind;
            tokens.next();
            return tokens.passNumber(least, most);
        }

        private void readRow(Tokens tokens, Board board) {
            if (board.rows == MOST_ROWS) {
                tokens.fail(6);
            }
            tokens.next();
            long name = tokens.nameCode();
            if (name == 0) {
                tokens.fail(1);
            } else if (board.rowNamed(name) != NONE) {
                tokens.fail(3);
            }
            tokens.next();
            int size = tokens.wordSize();
            long code = tokens.wordCode(board.letters);
            if (size == 0) {
                tokens.fail(1);
            } else if (size == 1) {
                tokens.fail(2);
            } else if (code == NONE) {
                tokens.fail(3);
            }
            tokens.next();
            if (tokens.errorCode == 0) {
                board.addRow(name, code, size);
            }
        }
    }

    /** The commands of a script, as they stand there; those of a repeat behind it. */
    private static final class Script {
        static final int CHOOSE = 1;
        static final int CLEAR = 2;
        static final int BETTER = 3;
        static final int IMPROVE = 4;
        static final int TAKE = 5;
        static final int BEST = 6;
        static final int OUT = 7;
        static final int IN = 8;
        static final int CHANGES = 9;
        static final int REPEAT = 10;
        static final int MOST_DEPTH = 2;
        static final int MOST_COMMANDS = 30;

        private static final int GREATEST_NUMBER = 999;
        private static final int MOST_REPEATS = 20;

        final int[] kinds = new int[MOST_COMMANDS];
        final int[] rows = new int[MOST_COMMANDS];
        final int[] numbers = new int[MOST_COMMANDS];
        int size;
        /** For each command the one that follows when it was done; of a repeat, that behind its script. */
        private final int[] following = new int[MOST_COMMANDS];
        /** The repeats within which the reader is. */
        private final int[] open = new int[MOST_DEPTH];
        private int depth;

        int behind(int at) {
            return Math.max(at + 1, following[at]);
        }

        /** False if the script has an error; its commands are of no use then. */
        boolean read(Tokens tokens, Board board) {
            size = 0;
            depth = 0;
            tokens.begin();
            for (int k = 0; k < MOST_BYTES && tokens.errorCode == 0 && !isAtEnd(tokens); k++) {
                if (depth > 0 && tokens.isMark(')')) {
                    closeRepeat(tokens);
                } else {
                    readCommand(tokens, board);
                }
            }
            return tokens.errorCode == 0;
        }

        private boolean isAtEnd(Tokens tokens) {
            return depth == 0 && tokens.kind == Tokens.END;
        }

        private void closeRepeat(Tokens tokens) {
            depth--;
            following[open[depth]] = size;
            tokens.next();
            tokens.passMark(';');
        }

        private void readCommand(Tokens tokens, Board board) {
            int kind = kindOf(tokens);
            if (kind == NONE) {
                tokens.fail(1);
            } else if (kind == REPEAT && depth == MOST_DEPTH) {
                tokens.fail(4);
            } else if (size == MOST_COMMANDS) {
                tokens.fail(6);
            } else {
                tokens.next();
                kinds[size] = kind;
                rows[size] = hasName(kind) ? passRow(tokens, board) : NONE;
                numbers[size] = passNumberOf(kind, tokens, board);
                following[size] = size + 1;
                size++;
                finishCommand(kind, tokens);
            }
        }

        private void finishCommand(int kind, Tokens tokens) {
            if (kind == REPEAT) {
                tokens.passMark('(');
                open[depth] = size - 1;
                depth++;
            } else {
                tokens.passMark(';');
            }
        }

        private static int kindOf(Tokens tokens) {
            if (tokens.isWord("choose")) {
                return CHOOSE;
            } else if (tokens.isWord("clear")) {
                return CLEAR;
            } else if (tokens.isWord("better")) {
                return BETTER;
            } else if (tokens.isWord("improve")) {
                return IMPROVE;
            } else if (tokens.isWord("take")) {
                return TAKE;
            } else if (tokens.isWord("best")) {
                return BEST;
            } else if (tokens.isWord("out")) {
                return OUT;
            } else if (tokens.isWord("in")) {
                return IN;
            } else if (tokens.isWord("changes")) {
                return CHANGES;
            }
            return tokens.isWord("repeat") ? REPEAT : NONE;
        }

        private static boolean hasName(int kind) {
            return kind == CHOOSE || kind == CLEAR || kind == BETTER || kind == OUT || kind == IN;
        }

        private static int passRow(Tokens tokens, Board board) {
            long name = tokens.nameCode();
            int row = board.rowNamed(name);
            if (name == 0) {
                tokens.fail(1);
            } else if (row == NONE) {
                tokens.fail(3);
            } else {
                tokens.next();
            }
            return row;
        }

        /** Goes behind the number or the word that a kind of command has; NONE if it has none. */
        private static int passNumberOf(int kind, Tokens tokens, Board board) {
            switch (kind) {
                case CHOOSE:
                case IMPROVE:
                case CHANGES:
                    return tokens.passNumber(0, GREATEST_NUMBER);
                case REPEAT:
                    return tokens.passNumber(1, MOST_REPEATS);
                case TAKE:
                    return passWord(tokens, board);
                default:
                    return NONE;
            }
        }

        private static int passWord(Tokens tokens, Board board) {
            long code = tokens.wordCode(board.letters);
            if (tokens.kind != Tokens.WORD) {
                tokens.fail(1);
            } else if (tokens.wordSize() != board.length || code == NONE) {
                tokens.fail(3);
            } else {
                tokens.next();
            }
            return board.wordOf((int) code);
        }
    }
}
