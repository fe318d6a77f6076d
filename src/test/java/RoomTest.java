import com.sun.management.ThreadMXBean;
import java.lang.management.ManagementFactory;

/** An object is small, and no call makes new arrays each time: all calls of a run live in one room. */
public final class RoomTest {
    private static final int CALLS = 512;
    private static final int OBJECTS = 1000;
    private static final long MOST_BYTES_OF_A_NEW_OBJECT = 16_000;
    /** Each of the three tables grows once, to what the largest text needs. */
    private static final long MOST_BYTES_OF_ALL_CALLS = 200_000;

    private static final ThreadMXBean THREADS = (ThreadMXBean) ManagementFactory.getThreadMXBean();

    private RoomTest() {
    }

    private static long bytes() {
        return THREADS.getCurrentThreadAllocatedBytes();
    }

    private static void feed(HiddenWords x, String text) {
        byte[] bytes = java.util.Arrays.copyOf(text.getBytes(java.nio.charset.StandardCharsets.ISO_8859_1), 620);
        for (int k = 0; k < text.length(); k += 20) {
            int[] fours = new int[5];
            for (int i = 0; i < 20; i++) {
                fours[i / 4] = fours[i / 4] << 8 | bytes[k + i];
            }
            x.feed(fours[0], fours[1], fours[2], fours[3], fours[4]);
        }
        x.truncate(text.length());
    }

    public static void main(String[] args) {
        Check check = new Check("the room");
        HiddenWords[] many = new HiddenWords[OBJECTS];
        new HiddenWords().best(0);
        long before = bytes();
        for (int k = 0; k < OBJECTS; k++) {
            many[k] = new HiddenWords();
        }
        long each = (bytes() - before) / OBJECTS;
        check.that("a new object has " + each + " bytes", each < MOST_BYTES_OF_A_NEW_OBJECT);

        HiddenWords x = new HiddenWords();
        StringBuilder text = new StringBuilder("length 6;changes 3;");
        String row = "abcdbcadcbadcbdabcdacbdacbdacd";
        for (int r = 0; r < 10; r++) {
            text.append("row ").append((char) ('a' + r)).append(' ').append(row.substring(r)).append(row, 0, r).append(';');
        }
        feed(x, text.toString());
        x.readText();
        feed(x, "repeat 2(best;out a;in a;improve 50;);");
        x.best(0);
        before = bytes();
        x.runScript();
        for (int k = 1; k < CALLS; k++) {
            call(x, k);
        }
        long all = bytes() - before;
        check.that("all calls make " + all + " bytes", all < MOST_BYTES_OF_ALL_CALLS);
        check.end();
    }

    private static void call(HiddenWords x, int k) {
        switch (k % 12) {
            case 0 -> x.second(0);
            case 1 -> x.outlier();
            case 2 -> x.bestStart(k % 10);
            case 3 -> x.setChanges(k % 4);
            case 4 -> x.mostHad(0);
            case 5 -> x.ranked(k);
            case 6 -> x.report();
            case 7 -> x.undo();
            case 8 -> x.commonest();
            case 9 -> x.improvesToEnd(50);
            case 10 -> x.sharedAt(1, 2, 0);
            default -> x.improve(50);
        }
    }
}
