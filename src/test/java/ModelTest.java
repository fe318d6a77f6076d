import java.lang.reflect.InvocationTargetException;
import java.lang.reflect.Method;
import java.util.ArrayList;
import java.util.Comparator;
import java.util.List;

/** Long runs of calls, the same ones each time, whose answers are compared with those of the model. */
public final class ModelTest {
    private static final int RUNS = 260;
    private static final int CALLS = 400;
    private static final int MOST_ARGUMENT = 35;

    private final Check check;
    private final int run;
    private final HiddenWords words = new HiddenWords();
    private final Model model = new Model();
    private final List<Method> methods = new ArrayList<>();
    private final List<Method> changes = new ArrayList<>();
    private long seed;

    private ModelTest(Check check, int run) {
        this.check = check;
        this.run = run;
        this.seed = 1000003L * run + 17;
        for (Method m : HiddenWords.class.getDeclaredMethods()) {
            if (java.lang.reflect.Modifier.isPublic(m.getModifiers())) {
                methods.add(m);
                if (CHANGES.contains(m.getName())) {
                    changes.add(m);
                }
            }
        }
        methods.sort(Comparator.comparing(Method::getName));
        changes.sort(Comparator.comparing(Method::getName));
    }

    private static final List<String> CHANGES = List.of("choose", "clear", "better", "improve", "take", "takeBest",
            "setOut", "setChanges", "undo", "save", "restore", "report");

    public static void main(String[] args) throws Exception {
        Check check = new Check("the model");
        for (int run = 0; run < RUNS && check.isRight(); run++) {
            new ModelTest(check, run).go();
        }
        check.end();
    }

    private int below(int n) {
        seed = seed * 6364136223846793005L + 1442695040888963407L;
        return (int) Math.floorMod(seed >>> 33, (long) n);
    }

    private boolean isOnce(int n) {
        return below(n) == 0;
    }

    private void go() throws Exception {
        text(false);
        for (int k = 0; k < CALLS && check.isRight(); k++) {
            int kind = below(100);
            if (kind < 2) {
                text(true);
            } else if (kind < 10) {
                script();
            } else if (kind < 45) {
                call(changes.get(below(changes.size())));
            } else {
                call(methods.get(below(methods.size())));
            }
        }
    }

    private void call(Method m) throws Exception {
        Class<?>[] types = m.getParameterTypes();
        Object[] arguments = new Object[types.length];
        for (int i = 0; i < types.length; i++) {
            arguments[i] = types[i] == boolean.class ? (Object) isOnce(2) : (Object) argument(m.getName(), i);
        }
        compare(m, arguments);
        if (CHANGES.contains(m.getName())) {
            compareAll();
        }
    }

    private int argument(String name, int i) {
        if (isOnce(60)) {
            return List.of(Integer.MIN_VALUE, Integer.MAX_VALUE, -2, -1, 1 << 30, 31, 64, 4096).get(below(8));
        }
        boolean isWord = i == 0 && List.of("score", "having", "spread", "hits", "hit", "timesOf", "bound", "rankOf", "take",
                "whyNotTake", "differ").contains(name) || i == 1 && List.of("differ", "distance", "closest").contains(name);
        if (isWord || name.equals("ranked")) {
            int rows = model.setting(0);
            int places = rows == 0 ? 0 : model.row(below(rows), 1);
            int word = places == 0 ? -1 : model.wordAt(below(rows), below(places));
            return word >= 0 && isOnce(2) ? word : below(model.setting(4) + (isOnce(10) ? 2 : 0));
        }
        if (name.equals("feed")) {
            return below(1 << 30);
        }
        boolean isRow = i == 0 && List.of("row", "letter", "wordAt", "distance", "closest", "shared", "sharedAt",
                "scoreWithout", "weight", "tryFrom", "bestStart", "choose", "clear", "better", "setOut").contains(name)
                || i == 1 && name.startsWith("shared");
        if (isRow) {
            return below(model.setting(0) + 1);
        }
        boolean isSmall = List.of("setting", "row", "best", "second", "mostHad", "taken", "count", "setChanges",
                "bound", "hit", "sharedAt").contains(name);
        return below(isSmall ? 8 : MOST_ARGUMENT) - (isOnce(10) ? 2 : 0);
    }

    private String answer(Object object, Method m, Object[] arguments) throws Exception {
        try {
            return String.valueOf(m.invoke(object, arguments));
        } catch (InvocationTargetException e) {
            return e.getCause().getClass().getSimpleName();
        }
    }

    private void compare(Method m, Object... arguments) throws Exception {
        Method other = Model.class.getMethod(m.getName(), m.getParameterTypes());
        String due = answer(model, other, arguments);
        check.due("run " + run + ": " + m.getName() + List.of(arguments), answer(words, m, arguments), due);
    }

    private void compare(String name, Object... arguments) throws Exception {
        Class<?>[] types = new Class<?>[arguments.length];
        java.util.Arrays.fill(types, int.class);
        compare(HiddenWords.class.getMethod(name, types), arguments);
    }

    /** What can be seen of the state without a search. */
    private void compareAll() throws Exception {
        for (int what = 0; what < 10; what++) {
            compare("setting", what);
        }
        for (int r = 0; r < model.setting(0); r++) {
            for (int what = 0; what < 5; what++) {
                compare("row", r, what);
            }
        }
        for (int i = 0; i < 7; i++) {
            compare("taken", i);
        }
        compare("errorCode");
        compare("errorPosition");
        if (isOnce(3)) {
            compare("report");
        }
        for (int i = 0; i < 40; i++) {
            compare("reportByte", i);
        }
    }

    private void feed(String text) throws Exception {
        String whole = text + "\0".repeat(19);
        for (int k = 0; k < text.length(); k += 20) {
            Object[] five = new Object[5];
            for (int i = 0; i < 5; i++) {
                int four = 0;
                for (int b = 0; b < 4; b++) {
                    four = four << 8 | whole.charAt(k + 4 * i + b);
                }
                five[i] = four;
            }
            compare("feed", five);
        }
        compare("truncate", text.length());
    }

    private String letters(int letters, int size) {
        StringBuilder text = new StringBuilder();
        for (int i = 0; i < size; i++) {
            text.append((char) ('a' + below(letters)));
        }
        return text.toString();
    }

    private void text(boolean mayBeWrong) throws Exception {
        compare("truncate", 0);
        boolean isBig = run % 26 == 25;
        int letters = isOnce(3) ? 4 : 2 + below(3);
        int length = isBig ? 5 + below(2) : 2 + below(3);
        StringBuilder text = new StringBuilder();
        if (letters != 4 || isOnce(3)) {
            text.append("letters ").append(letters).append(";");
        }
        if (isOnce(2)) {
            text.append("changes ").append(below(4)).append(" ;\n");
        }
        int rows = isOnce(4) ? 10 : below(6);
        String motif = letters(letters, length);
        for (int r = 0; r < rows; r++) {
            String name = letters(3, 1 + below(8)) + (char) ('a' + r);
            String row = letters(letters, 2 + below(isBig ? 29 : isOnce(4) ? 29 : 9));
            if (isOnce(2) && row.length() > length) {
                int start = below(row.length() - length + 1);
                row = row.substring(0, start) + motif + row.substring(start + length);
            }
            text.append("row ").append(name.substring(name.length() > 8 ? 1 : 0)).append(" ").append(row).append(";");
        }
        text.append(isOnce(8) && length == 3 ? "" : "length " + length + ";");
        String whole = text.length() > 600 ? text.substring(0, 600) : text.toString();
        feed(mayBeWrong && isOnce(2) ? spoilt(whole) : whole);
        compare("readText");
        compareAll();
    }

    private static final String[] PIECES = {";", "(", ")", " ", "\n", "\t", "a", "z", "7", "1000", "letters 3;", "length 1;", "row",
        "row b ab;", "changes 4;", "\u00e9", "repeat 2 ( ", ");", "best;", "abcdefghi", "a".repeat(31), "\0", "in", "take"};

    private String spoilt(String text) {
        StringBuilder spoilt = new StringBuilder(text);
        for (int k = below(2); k >= 0; k--) {
            int at = below(spoilt.length() + 1);
            int end = Math.min(spoilt.length(), at + below(4));
            spoilt.replace(at, end, isOnce(3) ? "" : PIECES[below(PIECES.length)]);
        }
        return spoilt.length() > 580 ? spoilt.substring(0, 580) : spoilt.toString();
    }

    private String name() {
        int rows = model.setting(0);
        model.report();
        StringBuilder all = new StringBuilder();
        for (int i = 0; i < model.report(); i++) {
            all.append((char) model.reportByte(i));
        }
        words.report();
        return rows == 0 ? "none" : all.toString().split("\n")[below(rows)].replace("-", "").split(" ")[0];
    }

    private void script() throws Exception {
        compare("truncate", 0);
        StringBuilder text = new StringBuilder();
        commands(text, 0, 1 + below(isOnce(6) ? 31 : 6));
        String whole = text.length() > 580 ? text.substring(0, 580) : text.toString();
        feed(isOnce(4) ? spoilt(whole) : whole);
        compare("runScript");
        compareAll();
    }

    private void commands(StringBuilder text, int depth, int count) {
        for (int k = 0; k < count; k++) {
            switch (below(depth < 2 || isOnce(9) ? 11 : 10)) {
                case 0 -> text.append("choose ").append(name()).append(" ").append(below(6));
                case 1 -> text.append("clear ").append(name());
                case 2 -> text.append("better ").append(name());
                case 3 -> text.append("improve ").append(isOnce(9) ? below(60) : 1 + below(50));
                case 4 -> text.append("take ").append(letters(model.setting(1), model.setting(2)));
                case 5 -> text.append("best");
                case 6 -> text.append("out ").append(name());
                case 7 -> text.append("in ").append(name());
                case 8, 9 -> text.append("changes ").append(below(isOnce(9) ? 6 : 4));
                default -> {
                    text.append("repeat ").append(1 + below(isOnce(9) ? 22 : 20)).append("(");
                    commands(text, depth + 1, below(4));
                    text.append(")");
                }
            }
            text.append(isOnce(3) ? " ;\n" : ";");
        }
    }
}
