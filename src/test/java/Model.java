import java.util.ArrayDeque;
import java.util.ArrayList;
import java.util.Comparator;
import java.util.Deque;
import java.util.List;
import java.util.TreeSet;
import java.util.regex.Matcher;
import java.util.regex.Pattern;

/**
 * The document once more, in its plainest words and without regard to speed: texts are Strings, and every
 * answer is found by looking at all words and all places. The class is compared with it, call by call.
 */
public final class Model {
    private static final class Row {
        String name;
        String text;
        boolean isOut;
        int chosen = -1;
        boolean[] covered;

        Row copy() {
            Row r = new Row();
            r.name = name;
            r.text = text;
            r.isOut = isOut;
            r.chosen = chosen;
            r.covered = covered.clone();
            return r;
        }
    }

    private static final class State {
        int letters = 4;
        int length = 3;
        int changes = 1;
        List<Row> rows = new ArrayList<>();
        List<Integer> taken = new ArrayList<>();

        State copy() {
            State s = new State();
            s.letters = letters;
            s.length = length;
            s.changes = changes;
            for (Row r : rows) {
                s.rows.add(r.copy());
            }
            s.taken.addAll(taken);
            return s;
        }

        boolean sameChoices(State other) {
            for (int r = 0; r < rows.size(); r++) {
                if (rows.get(r).chosen != other.rows.get(r).chosen) {
                    return false;
                }
            }
            return true;
        }
    }

    private static final class Fault extends RuntimeException {
        private static final long serialVersionUID = 1L;
        final int code;
        final int position;

        Fault(int code, int position) {
            this.code = code;
            this.position = position;
        }
    }

    private record Token(String text, int position, char kind) {
    }

    private record Command(String word, String name, int number, String letters, List<Command> inside) {
    }

    private State state = new State();
    private State saved;
    private final Deque<State> past = new ArrayDeque<>();
    private String buffer = "";
    private String report;
    private int errorCode;
    private int errorPosition = -1;
    private List<Token> tokens;
    private int at;
    private int commandsRead;
    private int commandsDone;

    // ---- words and places

    private int wordCount() {
        return (int) Math.round(Math.pow(state.letters, state.length));
    }

    private String wordText(int word) {
        String digits = Integer.toString(word, state.letters);
        digits = "0".repeat(state.length - digits.length()) + digits;
        StringBuilder text = new StringBuilder();
        for (char d : digits.toCharArray()) {
            text.append((char) ('a' + (d - '0')));
        }
        return text.toString();
    }

    private int wordNumber(String text) {
        StringBuilder digits = new StringBuilder();
        for (char c : text.toCharArray()) {
            digits.append(c - 'a');
        }
        return Integer.parseInt(digits.toString(), state.letters);
    }

    private static int unlike(String a, String b, int m) {
        int n = 0;
        for (int i = 0; i < m; i++) {
            n += a.charAt(i) != b.charAt(i) ? 1 : 0;
        }
        return n;
    }

    /** The starts of the places of a row. */
    private List<Integer> places(int row) {
        Row r = state.rows.get(row);
        List<Integer> starts = new ArrayList<>();
        for (int s = 0; !r.isOut && s + state.length <= r.text.length(); s++) {
            boolean isFree = true;
            for (int i = s; i < s + state.length; i++) {
                isFree &= !r.covered[i];
            }
            if (isFree) {
                starts.add(s);
            }
        }
        return starts;
    }

    private String at(int row, int start) {
        return state.rows.get(row).text.substring(start, start + state.length);
    }

    private int nearest(int row, String word, int m) {
        return places(row).stream().mapToInt(s -> unlike(word, at(row, s), m)).min().orElse(m);
    }

    private List<Integer> rowsIn() {
        List<Integer> in = new ArrayList<>();
        for (int r = 0; r < state.rows.size(); r++) {
            if (!state.rows.get(r).isOut) {
                in.add(r);
            }
        }
        return in;
    }

    private int boundOf(String word, int m) {
        return rowsIn().stream().mapToInt(r -> nearest(r, word, m)).sum();
    }

    private List<Integer> rowsHaving(int word) {
        List<Integer> having = new ArrayList<>(rowsIn());
        having.removeIf(r -> nearest(r, wordText(word), state.length) > state.changes);
        return having;
    }

    private List<Integer> allInOrder() {
        int[] scores = new int[wordCount()];
        List<Integer> words = new ArrayList<>();
        for (int w = 0; w < scores.length; w++) {
            scores[w] = boundOf(wordText(w), state.length);
            words.add(w);
        }
        words.sort(Comparator.comparingInt(w -> scores[w]));
        return words;
    }

    private int bestWord() {
        return allInOrder().get(0);
    }

    private int bestScore() {
        return boundOf(wordText(bestWord()), state.length);
    }

    private void row(int row) {
        if (row < 0 || row >= state.rows.size()) {
            throw new IndexOutOfBoundsException();
        }
    }

    private void word(int word) {
        if (word < 0 || word >= wordCount()) {
            throw new IndexOutOfBoundsException();
        }
    }

    private static void argument(boolean isRight) {
        if (!isRight) {
            throw new IllegalArgumentException();
        }
    }

    private static void index(boolean isRight) {
        if (!isRight) {
            throw new IndexOutOfBoundsException();
        }
    }

    private static void state(boolean isRight) {
        if (!isRight) {
            throw new IllegalStateException();
        }
    }

    // ---- texts

    public int feed(int a, int b, int c, int d, int e) {
        state(buffer.length() + 20 <= 600);
        StringBuilder more = new StringBuilder();
        for (int four : new int[] {a, b, c, d, e}) {
            more.append((char) (four >> 24 & 255)).append((char) (four >> 16 & 255));
            more.append((char) (four >> 8 & 255)).append((char) (four & 255));
        }
        buffer += more;
        return buffer.length();
    }

    public int truncate(int n) {
        argument(n >= 0 && n <= buffer.length());
        buffer = buffer.substring(0, n);
        return n;
    }

    private void split() {
        tokens = new ArrayList<>();
        at = 0;
        Matcher m = Pattern.compile("([a-z]+)|([0-9]+)|([;()])|[ \n]+|(.)", Pattern.DOTALL).matcher(buffer);
        while (m.find()) {
            String t = m.group();
            if (m.group(1) != null) {
                tokens.add(new Token(t, m.start(), t.length() <= 30 ? 'w' : '?'));
            } else if (m.group(2) != null) {
                tokens.add(new Token(t, m.start(), t.length() <= 3 ? 'n' : '?'));
            } else if (m.group(3) != null) {
                tokens.add(new Token(t, m.start(), 's'));
            } else if (m.group(4) != null) {
                tokens.add(new Token(t, m.start(), '?'));
            }
        }
        tokens.add(new Token("", buffer.length(), 'e'));
    }

    private Token token() {
        return tokens.get(at);
    }

    private void need(boolean isRight, int code) {
        if (!isRight) {
            throw new Fault(code, token().position);
        }
    }

    private void single(String mark) {
        need(token().kind == 's' && token().text.equals(mark), 1);
        at++;
    }

    private int number(int least, int most) {
        need(token().kind == 'n', 1);
        int n = Integer.parseInt(token().text);
        need(n >= least && n <= most, 2);
        at++;
        return n;
    }

    private boolean hasLettersOf(String text, int letters) {
        return text.chars().allMatch(c -> c < 'a' + letters);
    }

    private State text() {
        State s = new State();
        List<String> kinds = new ArrayList<>();
        while (token().kind != 'e') {
            String kind = token().text;
            need(token().kind == 'w' && List.of("letters", "length", "changes", "row").contains(kind), 1);
            need(kind.equals("row") || !kinds.contains(kind), 4);
            need(!kind.equals("letters") || s.rows.isEmpty(), 4);
            need(!kind.equals("row") || s.rows.size() < 10, 6);
            kinds.add(kind);
            at++;
            switch (kind) {
                case "letters" -> s.letters = number(2, 4);
                case "length" -> s.length = number(2, 6);
                case "changes" -> s.changes = number(0, 3);
                default -> textRow(s);
            }
            single(";");
        }
        return s;
    }

    private void textRow(State s) {
        Row row = new Row();
        row.name = token().text;
        need(token().kind == 'w' && row.name.length() <= 8, 1);
        need(s.rows.stream().noneMatch(r -> r.name.equals(row.name)), 3);
        at++;
        row.text = token().text;
        need(token().kind == 'w', 1);
        need(row.text.length() >= 2, 2);
        need(hasLettersOf(row.text, s.letters), 3);
        at++;
        row.covered = new boolean[row.text.length()];
        s.rows.add(row);
    }

    public int readText() {
        errorCode = 0;
        errorPosition = -1;
        try {
            split();
            state = text();
            past.clear();
            return state.rows.size();
        } catch (Fault f) {
            errorCode = f.code;
            errorPosition = f.position;
            throw new IllegalArgumentException();
        } finally {
            buffer = "";
        }
    }

    private List<Command> commands(int depth) {
        List<Command> list = new ArrayList<>();
        while (!(depth == 0 && token().kind == 'e') && !(depth > 0 && token().text.equals(")"))) {
            String kind = token().text;
            need(token().kind == 'w' && List.of("choose", "clear", "better", "improve", "take", "best", "out", "in",
                    "changes", "repeat").contains(kind), 1);
            need(!kind.equals("repeat") || depth < 2, 4);
            need(commandsRead < 30, 6);
            commandsRead++;
            at++;
            boolean isNamed = List.of("choose", "clear", "better", "out", "in").contains(kind);
            String name = isNamed ? rowName() : null;
            boolean isCounted = List.of("choose", "improve", "changes", "repeat").contains(kind);
            int number = isCounted ? number(kind.equals("repeat") ? 1 : 0, kind.equals("repeat") ? 20 : 999) : 0;
            String letters = kind.equals("take") ? takenWord() : null;
            List<Command> inside = null;
            if (kind.equals("repeat")) {
                single("(");
                inside = commands(depth + 1);
                single(")");
            }
            single(";");
            list.add(new Command(kind, name, number, letters, inside));
        }
        return list;
    }

    private int rowNumber(String name) {
        for (int r = 0; r < state.rows.size(); r++) {
            if (state.rows.get(r).name.equals(name)) {
                return r;
            }
        }
        return -1;
    }

    private String rowName() {
        String name = token().text;
        need(token().kind == 'w' && name.length() <= 8, 1);
        need(rowNumber(name) >= 0, 3);
        at++;
        return name;
    }

    private String takenWord() {
        String letters = token().text;
        need(token().kind == 'w', 1);
        need(letters.length() == state.length && hasLettersOf(letters, state.letters), 3);
        at++;
        return letters;
    }

    public int runScript() {
        errorCode = 0;
        errorPosition = -1;
        List<Command> list;
        try {
            split();
            commandsRead = 0;
            list = commands(0);
        } catch (Fault f) {
            errorCode = f.code;
            errorPosition = f.position;
            throw new IllegalArgumentException();
        } finally {
            buffer = "";
        }
        List<State> before = new ArrayList<>(past);
        keep();
        State own = past.peekFirst();
        commandsDone = 0;
        try {
            run(list);
        } catch (IllegalArgumentException | IllegalStateException | IndexOutOfBoundsException e) {
            // The script ends here.
        }
        past.clear();
        past.addAll(before);
        past.addFirst(own);
        if (past.size() > 6) {
            past.removeLast();
        }
        return commandsDone;
    }

    private void run(List<Command> list) {
        for (Command c : list) {
            if (c.word.equals("repeat")) {
                for (int k = 0; k < c.number; k++) {
                    run(c.inside);
                }
                continue;
            }
            state(commandsDone < 40);
            int row = rowNumber(c.name);
            switch (c.word) {
                case "choose" -> choose(row, c.number);
                case "clear" -> clear(row);
                case "better" -> better(row);
                case "improve" -> improve(c.number);
                case "take" -> take(wordNumber(c.letters));
                case "best" -> takeBest();
                case "out" -> setOut(row, true);
                case "in" -> setOut(row, false);
                default -> setChanges(c.number);
            }
            commandsDone++;
        }
    }

    public int errorCode() {
        return errorCode;
    }

    public int errorPosition() {
        return errorPosition;
    }

    // ---- rows, words

    private int coveredOf(int row) {
        int set = 0;
        boolean[] covered = state.rows.get(row).covered;
        for (int i = 0; i < covered.length; i++) {
            set |= covered[i] ? 1 << i : 0;
        }
        return set;
    }

    public int setting(int what) {
        argument(what >= 0 && what <= 9);
        int places = 0;
        int covered = 0;
        int chosen = 0;
        for (int r = 0; r < state.rows.size(); r++) {
            places += places(r).size();
            covered += Integer.bitCount(coveredOf(r));
            chosen += state.rows.get(r).chosen >= 0 ? 1 : 0;
        }
        int out = state.rows.size() - rowsIn().size();
        return new int[] {state.rows.size(), state.letters, state.length, state.changes, wordCount(), places, out,
            covered, state.taken.size(), chosen}[what];
    }

    public int row(int row, int what) {
        row(row);
        argument(what >= 0 && what <= 4);
        Row r = state.rows.get(row);
        return new int[] {r.text.length(), places(row).size(), r.chosen, r.isOut ? 1 : 0, coveredOf(row)}[what];
    }

    public int letter(int row, int i) {
        row(row);
        index(i >= 0 && i < state.rows.get(row).text.length());
        return state.rows.get(row).text.charAt(i) - 'a';
    }

    public int wordAt(int row, int start) {
        row(row);
        return places(row).contains(start) ? wordNumber(at(row, start)) : -1;
    }

    public int differ(int word, int other) {
        word(word);
        word(other);
        return unlike(wordText(word), wordText(other), state.length);
    }

    public int distance(int row, int word) {
        row(row);
        word(word);
        return state.rows.get(row).isOut ? -1 : nearest(row, wordText(word), state.length);
    }

    public int score(int word) {
        word(word);
        return boundOf(wordText(word), state.length);
    }

    public int having(int word) {
        word(word);
        return rowsHaving(word).stream().mapToInt(r -> 1 << r).sum();
    }

    public int closest(int row, int word) {
        row(row);
        word(word);
        return places(row).stream()
            .min(Comparator.comparingInt(s -> unlike(at(row, s), wordText(word), state.length))).orElse(-1);
    }

    public int spread(int word) {
        word(word);
        return rowsIn().stream().mapToInt(r -> nearest(r, wordText(word), state.length)).max().orElse(-1);
    }

    private List<Integer> sharedWords(int row, int other) {
        row(row);
        row(other);
        TreeSet<Integer> words = new TreeSet<>();
        TreeSet<Integer> others = new TreeSet<>();
        places(row).forEach(s -> words.add(wordNumber(at(row, s))));
        places(other).forEach(s -> others.add(wordNumber(at(other, s))));
        words.retainAll(others);
        return new ArrayList<>(words);
    }

    public int shared(int row, int other) {
        return sharedWords(row, other).size();
    }

    public int sharedAt(int row, int other, int i) {
        List<Integer> words = sharedWords(row, other);
        return i >= 0 && i < words.size() ? words.get(i) : -1;
    }

    private List<int[]> hitList(int word) {
        word(word);
        List<int[]> list = new ArrayList<>();
        for (int r = 0; r < state.rows.size(); r++) {
            for (int s : places(r)) {
                int n = unlike(at(r, s), wordText(word), state.length);
                if (n <= state.changes) {
                    list.add(new int[] {r, s, n});
                }
            }
        }
        return list;
    }

    public int hits(int word) {
        return hitList(word).size();
    }

    public int hit(int word, int i, int what) {
        List<int[]> list = hitList(word);
        index(i >= 0 && i < list.size());
        argument(what >= 0 && what <= 2);
        return list.get(i)[what];
    }

    private int[] times() {
        int[] times = new int[wordCount()];
        for (int r = 0; r < state.rows.size(); r++) {
            for (int s : places(r)) {
                times[wordNumber(at(r, s))]++;
            }
        }
        return times;
    }

    public int kinds() {
        int kinds = 0;
        for (int n : times()) {
            kinds += n > 0 ? 1 : 0;
        }
        return kinds;
    }

    public int timesOf(int word) {
        word(word);
        return times()[word];
    }

    public int commonest() {
        int[] times = times();
        int found = -1;
        for (int w = 0; w < times.length; w++) {
            if (times[w] > (found < 0 ? 0 : times[found])) {
                found = w;
            }
        }
        return found;
    }

    // ---- the search, the order

    private int[] searched() {
        int[] found = {-1, 0, 0, 0};
        search("", found);
        return found;
    }

    private void search(String beginning, int[] found) {
        for (int x = 0; x < state.letters; x++) {
            String next = beginning + (char) ('a' + x);
            int bound = boundOf(next, next.length());
            found[2]++;
            if (found[0] >= 0 && bound >= found[1]) {
                found[3]++;
            } else if (next.length() == state.length) {
                found[0] = wordNumber(next);
                found[1] = bound;
            } else {
                search(next, found);
            }
        }
    }

    public int best(int what) {
        argument(what >= 0 && what <= 3);
        return searched()[what];
    }

    public int bound(int word, int m) {
        word(word);
        argument(m >= 1 && m <= state.length);
        return boundOf(wordText(word), m);
    }

    public int mostHad(int what) {
        argument(what == 0 || what == 1);
        int most = -1;
        int found = -1;
        for (int w : allInOrder()) {
            int n = rowsHaving(w).size();
            if (n > most) {
                most = n;
                found = w;
            }
        }
        return what == 0 ? found : most;
    }

    public int scoreWithout(int row) {
        row(row);
        State before = state;
        state = state.copy();
        state.rows.get(row).isOut = true;
        int without = bestScore();
        state = before;
        return without;
    }

    public int outlier() {
        return rowsIn().stream().min(Comparator.comparingInt(this::scoreWithout)).orElse(-1);
    }

    public int ranked(int i) {
        return i >= 0 && i < wordCount() ? allInOrder().get(i) : -1;
    }

    public int rankOf(int word) {
        word(word);
        return allInOrder().indexOf(word);
    }

    public int second(int what) {
        argument(what == 0 || what == 1);
        int best = bestWord();
        if (whyNotTake(best) != 0) {
            return -1;
        }
        State before = state;
        state = state.copy();
        cover(best);
        int answer = what == 0 ? bestWord() : bestScore();
        state = before;
        return answer;
    }

    // ---- profiles

    private int[][] profile(int except) {
        int[][] counts = new int[state.length][state.letters];
        for (int r = 0; r < state.rows.size(); r++) {
            int start = state.rows.get(r).chosen;
            for (int i = 0; i < state.length && start >= 0 && r != except; i++) {
                counts[i][at(r, start).charAt(i) - 'a']++;
            }
        }
        return counts;
    }

    public int count(int at, int letter) {
        index(at >= 0 && at < state.length && letter >= 0 && letter < state.letters);
        return profile(-1)[at][letter];
    }

    public int common() {
        if (setting(9) == 0) {
            return -1;
        }
        StringBuilder text = new StringBuilder();
        for (int[] counts : profile(-1)) {
            int found = 0;
            for (int x = 0; x < counts.length; x++) {
                found = counts[x] > counts[found] ? x : found;
            }
            text.append((char) ('a' + found));
        }
        return wordNumber(text.toString());
    }

    public int agreement() {
        int sum = 0;
        for (int[] counts : profile(-1)) {
            int most = 0;
            for (int n : counts) {
                most = Math.max(most, n);
            }
            sum += most;
        }
        return sum;
    }

    public int weight(int row, int start) {
        row(row);
        if (!places(row).contains(start)) {
            return 0;
        }
        int product = 1;
        int[][] counts = profile(row);
        for (int i = 0; i < state.length; i++) {
            product *= 1 + counts[i][at(row, start).charAt(i) - 'a'];
        }
        return product;
    }

    public int tryFrom(int row, int start) {
        row(row);
        if (!places(row).contains(start)) {
            return -1;
        }
        State before = state;
        state = state.copy();
        state.rows.forEach(r -> r.chosen = -1);
        state.rows.get(row).chosen = start;
        for (int k = 0; k < 50; k++) {
            improveOnce();
        }
        int answer = agreement();
        state = before;
        return answer;
    }

    public int bestStart(int row) {
        row(row);
        int found = -1;
        for (int s : places(row)) {
            if (found < 0 || tryFrom(row, s) > tryFrom(row, found)) {
                found = s;
            }
        }
        return found;
    }

    public float agreementShare() {
        int chosen = setting(9);
        return chosen == 0 ? 0.0f : (float) agreement() / (float) (state.length * chosen);
    }

    public double meanDistance() {
        int in = rowsIn().size();
        return in == 0 ? 0.0 : (double) bestScore() / (double) in;
    }

    public int improvesToEnd(int limit) {
        argument(limit >= 0 && limit <= 50);
        State before = state;
        state = state.copy();
        int answer = -1;
        for (int k = 0; k <= limit && answer < 0; k++) {
            State old = state.copy();
            improveOnce();
            answer = state.sameChoices(old) ? k : -1;
        }
        state = before;
        return answer;
    }

    // ---- changes

    private void keep() {
        past.addFirst(state.copy());
        if (past.size() > 6) {
            past.removeLast();
        }
    }

    private void betterRow(int row) {
        int found = -1;
        for (int s : places(row)) {
            if (found < 0 || weight(row, s) > weight(row, found)) {
                found = s;
            }
        }
        state.rows.get(row).chosen = found;
    }

    private void improveOnce() {
        rowsIn().forEach(this::betterRow);
    }

    public int choose(int row, int start) {
        row(row);
        argument(places(row).contains(start));
        keep();
        state.rows.get(row).chosen = start;
        return agreement();
    }

    public int clear(int row) {
        row(row);
        int start = state.rows.get(row).chosen;
        state(start >= 0);
        keep();
        state.rows.get(row).chosen = -1;
        return start;
    }

    public int better(int row) {
        row(row);
        state(!state.rows.get(row).isOut);
        keep();
        betterRow(row);
        return state.rows.get(row).chosen;
    }

    public int improve(int most) {
        argument(most >= 1 && most <= 50);
        keep();
        int times = 0;
        boolean isDone = false;
        while (!isDone && times < most) {
            State old = state.copy();
            improveOnce();
            times++;
            isDone = state.sameChoices(old);
        }
        return times;
    }

    private int cover(int word) {
        List<Integer> having = rowsHaving(word);
        int[] starts = having.stream().mapToInt(r -> closest(r, word)).toArray();
        for (int k = 0; k < starts.length; k++) {
            for (int i = 0; i < state.length && starts[k] >= 0; i++) {
                state.rows.get(having.get(k)).covered[starts[k] + i] = true;
            }
        }
        for (int r = 0; r < state.rows.size(); r++) {
            if (!places(r).contains(state.rows.get(r).chosen)) {
                state.rows.get(r).chosen = -1;
            }
        }
        state.taken.add(word);
        return having.size();
    }

    public int take(int word) {
        state(whyNotTake(word) == 0);
        keep();
        return cover(word);
    }

    public int takeBest() {
        int word = bestWord();
        take(word);
        return word;
    }

    public int whyNotTake(int word) {
        word(word);
        return state.taken.size() == 6 ? 1 : rowsHaving(word).isEmpty() ? 2 : 0;
    }

    public int taken(int i) {
        return i >= 0 && i < state.taken.size() ? state.taken.get(i) : -1;
    }

    public int setOut(int row, boolean isOut) {
        row(row);
        state(state.rows.get(row).isOut != isOut);
        keep();
        state.rows.get(row).isOut = isOut;
        state.rows.get(row).chosen = -1;
        return setting(6);
    }

    public int setChanges(int changes) {
        argument(changes >= 0 && changes <= 3);
        keep();
        int before = state.changes;
        state.changes = changes;
        return before;
    }

    // ---- reports, undo, a saved state

    public int report() {
        StringBuilder text = new StringBuilder();
        for (Row r : state.rows) {
            text.append(r.isOut ? "-" : "").append(r.name).append(" ");
            for (int i = 0; i < r.text.length(); i++) {
                char c = r.text.charAt(i);
                boolean isChosen = r.chosen >= 0 && i >= r.chosen && i < r.chosen + state.length;
                text.append(r.covered[i] ? '*' : isChosen ? Character.toUpperCase(c) : c);
            }
            text.append("\n");
        }
        report = text.toString();
        return report.length();
    }

    public int reportByte(int i) {
        index(report != null && i >= 0 && i < report.length());
        return report.charAt(i);
    }

    public int undo() {
        if (past.isEmpty()) {
            return -1;
        }
        state = past.removeFirst();
        return past.size();
    }

    public int save() {
        saved = state.copy();
        return state.rows.size();
    }

    public int restore() {
        state(saved != null);
        state = saved.copy();
        past.clear();
        return state.rows.size();
    }
}
