import java.lang.reflect.Method;
import java.util.Arrays;
import java.util.Comparator;

/**
 * What the tests of the boundary cases share. Each test is a method that has the number of its promise or section
 * as the beginning of its name, and says first which sentence of the document it is about.
 */
abstract class Boundaries {
    static final String INDEX = "IndexOutOfBoundsException";
    static final String ARGUMENT = "IllegalArgumentException";
    static final String STATE = "IllegalStateException";
    static final int NONE = -1;
    static final int LOW = Integer.MIN_VALUE;
    static final int HIGH = Integer.MAX_VALUE;

    /** Places of x: abc bca cab, of y: bca cab abc, of z: aac. Words: abc 5, bca 15, cab 19, aac 2. */
    static final String XYZ = "letters 3;row x abcab;row y bcabc;row z aac;";
    static final int AAC = 2;
    static final int ABC = 5;
    static final int BCA = 15;
    static final int CAB = 19;

    /** From place 16 of row a on, improving goes farther than 50 times: 54 times change something. */
    static final String FAR = "length 4;"
            + "row a cbcdcdbbcbbddadccaadadcaddbbab;row b acdcbbadadaddadabadadbadcbaabb;"
            + "row c aaddcdbccdacccdccbcbdacbdbddad;row d aadaabbdacaadbbdbadaacddaadabb;"
            + "row e dbadacaddcbbabaddbaaccabcbdccc;row f adbacabdbaabbabdcaddabbbbadacb;"
            + "row g dcaaadadcdbdadaddacbcacaddacdc;row h accbaddadaaacdcaabaaaabddababa;"
            + "row i ddcaabbbdadcccaaddaaaccbccdbbb;row j bdcbbadccddbacaaddaacbdcdbdabd;";
    static final int FAR_START = 16;
    static final int FAR_TIMES = 54;
    /** The agreement behind improving 49, 50 and 51 times on this way. */
    static final int[] FAR_AGREEMENTS = {33, 35, 36};

    /** What stands in the buffer behind a text, until it is truncated: it must not be read any more. */
    static final String[] PADS = {"a", "7", ";", ")", " ", "\0"};

    /** A call of an object. */
    interface Step {
        Object on(HiddenWords x);
    }

    private final Check check;
    private final Sentences sentences;
    private Step[] history = {};
    private String label = "";
    private boolean isNamed;
    HiddenWords x;

    Boundaries(Check check, Sentences sentences) {
        this.check = check;
        this.sentences = sentences;
    }

    final void all() throws ReflectiveOperationException {
        Method[] methods = getClass().getDeclaredMethods();
        Arrays.sort(methods, Comparator.comparing(Method::getName));
        for (Method m : methods) {
            if (m.getName().matches("(promise|section|what)\\d.*")) {
                label = m.getName();
                isNamed = false;
                m.invoke(this);
                check.that(m.getName() + " names its sentence", isNamed);
            }
        }
    }

    /** The test is about this sentence of a promise. */
    final void promise(int number, String sentence) {
        name("Promise " + number, "promise" + number, sentence);
    }

    /** The test is about this sentence of a section of the terms. */
    final void section(int number, String sentence) {
        name("Section " + number, "section" + number, sentence);
    }

    /** The test is about this sentence of the document's beginning. */
    final void what(String sentence) {
        name("What it is", "what0", sentence);
    }

    private void name(String part, String method, String sentence) {
        String first = label.split(":")[0];
        check.that(first + " is a test of " + part, first.matches(method + "\\D.*"));
        check.that(part + " says: " + sentence, sentences.name(part, sentence));
        label = first + ": " + sentence;
        isNamed = true;
    }

    // ---- the object that is tested

    /** Makes a new object and lets these steps be done. */
    final void begin(Step... steps) {
        history = steps;
        x = made();
    }

    /** Makes a new object that reads this text, and lets these steps be done. */
    final void text(String text, Step... steps) {
        Step[] all = new Step[steps.length + 1];
        all[0] = y -> read(y, text);
        System.arraycopy(steps, 0, all, 1, steps.length);
        begin(all);
    }

    private HiddenWords made() {
        HiddenWords y = new HiddenWords();
        for (Step s : history) {
            s.on(y);
        }
        return y;
    }

    static int read(HiddenWords y, String text) {
        feed(y, text, "\0");
        return y.readText();
    }

    static int run(HiddenWords y, String script) {
        feed(y, script, "\0");
        return y.runScript();
    }

    static int feed(HiddenWords y, String text, String pad) {
        String whole = text + pad.repeat(19);
        y.truncate(0);
        for (int k = 0; k < text.length(); k += 20) {
            y.feed(four(whole, k), four(whole, k + 4), four(whole, k + 8), four(whole, k + 12), four(whole, k + 16));
        }
        return y.truncate(text.length());
    }

    private static int four(String text, int k) {
        return text.charAt(k) << 24 | text.charAt(k + 1) << 16 | text.charAt(k + 2) << 8 | text.charAt(k + 3);
    }

    // ---- what is due

    final void due(String call, Step step, Object due) {
        check.due(label + " - " + call, Check.answerOf(() -> step.on(x)), String.valueOf(due));
    }

    /** The answers of one call for several arguments in a row, from the first argument on. */
    final void dueEach(String call, int first, java.util.function.IntFunction<Step> step, Object... dues) {
        for (int k = 0; k < dues.length; k++) {
            due(call + " " + (first + k), step.apply(first + k), dues[k]);
        }
    }

    final void that(String what, boolean isRight) {
        check.that(label + " - " + what, isRight);
    }

    /** The call throws this and changes nothing: all is as with an object that did the same without it. */
    final void refused(String call, Step step, String exception) {
        HiddenWords is = made();
        check.due(label + " - " + call, Check.answerOf(() -> step.on(is)), exception);
        check.due(label + " - " + call + " changes nothing", allOf(is), allOf(made()));
    }

    /** The same with the error and the buffer left out. */
    final void refusedText(String call, Step step, Step same) {
        HiddenWords is = made();
        HiddenWords as = made();
        check.due(label + " - " + call, Check.answerOf(() -> step.on(is)), ARGUMENT);
        same.on(as);
        check.due(label + " - " + call + " changes nothing", stateOf(is), stateOf(as));
    }

    /** Two objects show the same in all that the face tells. */
    final void same(String what, Step one, Step other) {
        HiddenWords a = made();
        HiddenWords b = made();
        one.on(a);
        other.on(b);
        check.due(label + " - " + what, allOf(a), allOf(b));
    }

    /** All that can be seen; the object is of no use then. */
    private static String allOf(HiddenWords y) {
        StringBuilder text = new StringBuilder();
        text.append(y.errorCode()).append(' ').append(y.errorPosition()).append(' ').append(sizeOf(y)).append('\n');
        text.append(stateOf(y)).append("the buffer: ").append(Check.answerOf(() -> y.readText()));
        return text.append(y.errorCode()).append(' ').append(y.errorPosition()).append(seen(y)).toString();
    }

    /** All that can be seen but the buffer and the error; the buffer stays as it is. */
    private static String stateOf(HiddenWords y) {
        StringBuilder text = new StringBuilder("the report: ").append(latestReport(y));
        text.append(seen(y));
        for (int k = 0; k < 7; k++) {
            text.append("undo ").append(y.undo()).append(shortly(y)).append('\n');
        }
        text.append("restore ").append(Check.answerOf(() -> y.restore()));
        return text.append(shortly(y)).append('\n').toString();
    }

    /** How many bytes there are in the buffer. */
    static int sizeOf(HiddenWords y) {
        String more = Check.answerOf(() -> y.feed(0, 0, 0, 0, 0));
        if (more.equals(STATE)) {
            int size = 600;
            while (size > 580 && Check.answerOf(truncating(y, size)).equals(ARGUMENT)) {
                size--;
            }
            return size;
        }
        return y.truncate(Integer.parseInt(more) - 20);
    }

    private static Check.Call truncating(HiddenWords y, int size) {
        return () -> y.truncate(size);
    }

    /** The state, as far as calls tell it that change nothing. */
    static String seen(HiddenWords y) {
        StringBuilder text = new StringBuilder(shortly(y));
        for (int what = 0; what < 10; what++) {
            text.append(y.setting(what)).append(' ');
        }
        for (int r = 0; r < y.setting(0); r++) {
            text.append(y.row(r, 0)).append(' ').append(y.row(r, 1)).append(' ');
            text.append(y.letter(r, 1)).append(' ').append(y.wordAt(r, 0)).append(' ');
        }
        return text.append(y.best(0)).append(' ').append(y.best(1)).append(' ').append(y.agreement()).toString();
    }

    private static String shortly(HiddenWords y) {
        StringBuilder text = new StringBuilder("changes ").append(y.setting(3)).append(" taken ");
        for (int i = 0; i < y.setting(8); i++) {
            text.append(y.taken(i)).append(' ');
        }
        for (int r = 0; r < y.setting(0); r++) {
            text.append(y.row(r, 2)).append(' ').append(y.row(r, 3)).append(' ').append(y.row(r, 4)).append(", ");
        }
        return text.toString();
    }

    static String reported(HiddenWords y) {
        y.report();
        return latestReport(y);
    }

    /** The bytes of the latest report, 50 of them at the most. */
    static String latestReport(HiddenWords y) {
        StringBuilder text = new StringBuilder();
        for (int i = 0; i < 50; i++) {
            int k = i;
            String b = Check.answerOf(() -> y.reportByte(k));
            if (b.equals(INDEX)) {
                break;
            }
            text.append((char) Integer.parseInt(b));
        }
        return text.toString();
    }

    /** Ten rows, a to j, with these letters each. */
    static String tenRows(String letters) {
        StringBuilder text = new StringBuilder();
        for (char c = 'a'; c <= 'j'; c++) {
            text.append("row ").append(c).append(' ').append(letters).append(';');
        }
        return text.toString();
    }
}
