/** The boundary cases of scripts: section 6 and promise 5. */
final class ScriptBoundaries extends Boundaries {
    ScriptBoundaries(Check check, Sentences sentences) {
        super(check, sentences);
    }

    private static int fedAndRun(HiddenWords y, String script, String pad) {
        feed(y, script, pad);
        return y.runScript();
    }

    /** The script does so many commands on an object that has read the text of the three rows. */
    private void does(String script, int commands) {
        for (String pad : PADS) {
            text(XYZ);
            due(script, y -> fedAndRun(y, script, pad), commands);
            due(script + " - code", y -> y.errorCode(), 0);
            due(script + " - position", y -> y.errorPosition(), NONE);
        }
    }

    /** The script does so many commands, and the changes are so many then. */
    private void leaves(String script, int commands, int changes) {
        does(script, commands);
        due(script + " - the changes behind it", y -> y.setting(3), changes);
    }

    /** The script has this error, and nothing of it is done. */
    private void wrong(String script, int code, int position) {
        text(XYZ, y -> y.save(), y -> y.choose(0, 1), y -> y.report(), y -> y.setOut(2, true));
        for (String pad : PADS) {
            refusedText(script, y -> fedAndRun(y, script, pad), y -> y.truncate(0));
            due(script, y -> fedAndRun(y, script, pad), ARGUMENT);
            due(script + " - code", y -> y.errorCode(), code);
            due(script + " - position", y -> y.errorPosition(), position);
            due(script + " - the buffer", y -> sizeOf(y), 0);
        }
    }

    // ---- section 6

    void section6Grammar() {
        section(6, "script = { command \";\" }");
        does("", 0);
        does(" \n", 0);
        does("changes 2;", 1);
        does("changes 2;changes 2;", 2);
        wrong("changes 2", 1, 9);
        wrong(";", 1, 0);
        wrong("changes 2;;", 1, 10);
        wrong("changes 2 changes 2;", 1, 10);
        wrong("best", 1, 4);
    }

    void section6Command() {
        section(6, "command = \"choose\" NAME N | \"clear\" NAME | \"better\" NAME | \"improve\" N | \"take\" WORD |"
                + " \"best\" | \"out\" NAME | \"in\" NAME | \"changes\" N | \"repeat\" N \"(\" script \")\"");
        does("changes 3;choose x 0;clear x;better x;improve 1;take aac;best;out x;in x;repeat 1(changes 1;);", 10);
        wrong("choose;", 1, 6);
        wrong("choose x;", 1, 8);
        wrong("choose 1 x;", 1, 7);
        wrong("choose x 1 1;", 1, 11);
        wrong("choose x y;", 1, 9);
        wrong("clear;", 1, 5);
        wrong("clear x 1;", 1, 8);
        wrong("clear 1;", 1, 6);
        wrong("better;", 1, 6);
        wrong("better x y;", 1, 9);
        wrong("improve;", 1, 7);
        wrong("improve x;", 1, 8);
        wrong("improve 1 1;", 1, 10);
        wrong("take;", 1, 4);
        wrong("take 5;", 1, 5);
        wrong("take abc abc;", 1, 9);
        wrong("best x;", 1, 5);
        wrong("best 1;", 1, 5);
        wrong("out;", 1, 3);
        wrong("out x 1;", 1, 6);
        wrong("in;", 1, 2);
        wrong("in x 1;", 1, 5);
        wrong("changes;", 1, 7);
        wrong("changes x;", 1, 8);
        wrong("changes 1 1;", 1, 10);
        wrong("row x abc;", 1, 0);
        wrong("chooses x 1;", 1, 0);
        wrong("x;", 1, 0);
        wrong("5;", 1, 0);
        wrong("(best;);", 1, 0);
        wrong(");", 1, 0);
        wrong("best;);", 1, 5);
    }

    void section6CommandRepeat() {
        section(6, "\"repeat\" N \"(\" script \")\"");
        does("repeat 3();", 0);
        does("repeat 3(changes 1;changes 2;);", 6);
        does("repeat 2 ( repeat 2 ( changes 1 ; ) ; changes 2 ; ) ;\n", 6);
        does("repeat 1();repeat 1(repeat 1(););changes 2;", 1);
        wrong("repeat;", 1, 6);
        wrong("repeat 2;", 1, 8);
        wrong("repeat 2", 1, 8);
        wrong("repeat x();", 1, 7);
        wrong("repeat (best;);", 1, 7);
        wrong("repeat 2)best;);", 1, 8);
        wrong("repeat 2(", 1, 9);
        wrong("repeat 2(best", 1, 13);
        wrong("repeat 2(best;", 1, 14);
        wrong("repeat 2(best;)", 1, 15);
        wrong("repeat 2(best);", 1, 13);
        wrong("repeat 2(best;;);", 1, 14);
        wrong("repeat 2(;);", 1, 9);
        wrong("repeat 2(());", 1, 9);
        wrong("repeat 2(best;));", 1, 15);
        wrong("repeat 2(repeat 2(best;);;", 1, 25);
        wrong("repeat 2(repeat 2(best;););best", 1, 31);
    }

    void section6Tokens() {
        section(6, "The tokens are those of a text.");
        does("\n changes\n2\n;\n", 1);
        does("changes2;choose x1;", 2);
        does("repeat 002(changes 003;);", 2);
        wrong("changes 0002;", 1, 8);
        wrong("changes 4294967298;", 1, 8);
        wrong("choose x 4294967296;", 1, 9);
        wrong("changes 2;\t", 1, 10);
        wrong("changes 2;\0", 1, 10);
        wrong("changes 2;\u00e9", 1, 10);
        wrong("take " + "a".repeat(30) + ";", 3, 5);
        wrong("take " + "a".repeat(31) + ";", 1, 5);
        wrong("clear " + "a".repeat(31) + ";", 1, 6);
        wrong("clear abcdefgh;", 3, 6);
        wrong("clear abcdefghi;", 1, 6);
        text("row abcdefgh abc;row abcdefg abc;", y -> y.setOut(1, true));
        due("a name of 8 letters", y -> run(y, "better abcdefgh;choose abcdefgh 0;"), 2);
        due("a name of 7 letters", y -> run(y, "in abcdefg;"), 1);
        text("row out abc;row in abc;row best abc;");
        due("names like commands", y -> run(y, "out out;out in;out best;in out;in in;in best;"), 6);
        begin(y -> read(y, XYZ), y -> feed(y, "changes 2;" + " ".repeat(580) + "changes 3;", "\0"));
        due("600 bytes", y -> y.runScript(), 2);
        due("the last ones", y -> y.setting(3), 3);
    }

    void section6Methods() {
        section(6, "The commands are as the methods choose(), clear(), better(), improve(), take() (of this word),"
                + " takeBest(), setOut() (with true for \"out\") and setChanges(); numbers are 0 to 999, of \"repeat\""
                + " 1 to 20.");
        text(XYZ, y -> y.setOut(2, true));
        same("choose", y -> script(y, "choose x 2;"), y -> called(y, y.choose(0, 2)));
        same("better", y -> script(y, "better y;"), y -> called(y, y.better(1)));
        same("improve", y -> script(y, "improve 50;"), y -> called(y, y.improve(50)));
        same("take", y -> script(y, "take bca;"), y -> called(y, y.take(BCA)));
        same("best", y -> script(y, "best;"), y -> called(y, y.takeBest()));
        same("out", y -> script(y, "out x;"), y -> called(y, y.setOut(0, true)));
        same("in", y -> script(y, "in z;"), y -> called(y, y.setOut(2, false)));
        same("changes", y -> script(y, "changes 0;"), y -> called(y, y.setChanges(0)));
        text(XYZ, y -> y.choose(0, 1));
        same("clear", y -> script(y, "clear x;"), y -> called(y, y.clear(0)));

        // 0 and 999 are numbers; what a method says of them is another matter.
        does("changes 0;", 1);
        does("choose x 0;", 1);
        does("improve 0;", 0);
        does("changes 999;", 0);
        does("choose x 999;", 0);
        does("improve 999;", 0);
        wrong("changes 1000;", 1, 8);
        wrong("choose x 1000;", 1, 9);
        wrong("improve 1000;", 1, 8);
        does("repeat 1(changes 2;);", 1);
        does("repeat 20(changes 2;);", 20);
        wrong("repeat 0(changes 2;);", 2, 7);
        wrong("repeat 21(changes 2;);", 2, 7);
        wrong("repeat 999(changes 2;);", 2, 7);
        wrong("repeat 1000(changes 2;);", 1, 7);
        wrong("repeat 000(changes 2;);", 2, 7);
        does("repeat 020(changes 2;);", 20);
        wrong("repeat 0", 2, 7);
    }

    private static int script(HiddenWords y, String script) {
        return run(y, script);
    }

    private static int called(HiddenWords y, int answer) {
        return y.truncate(0) + answer;
    }

    void section6EndsAtACommand() {
        section(6, "A script ends, also within a \"repeat\", at a command whose method would throw an exception; the"
                + " commands before stay done, and it is not counted.");
        leaves("changes 2;choose x 2;changes 3;", 3, 3);
        leaves("changes 2;choose x 3;changes 3;", 1, 2);
        leaves("out x;choose x 0;changes 3;", 1, 1);
        leaves("take abc;choose x 0;changes 3;", 1, 1);
        leaves("choose x 1;clear x;clear x;changes 3;", 2, 1);
        leaves("out y;choose x 1;clear y;changes 3;", 2, 1);
        leaves("out x;better x;changes 3;", 1, 1);
        leaves("out x;in x;better x;changes 3;", 4, 3);
        leaves("improve 50;improve 1;changes 3;", 3, 3);
        leaves("improve 0;changes 3;", 0, 1);
        leaves("improve 51;changes 3;", 0, 1);
        leaves("changes 0;take abb;changes 3;", 1, 0);
        leaves("changes 0;take abc;take bca;changes 3;", 2, 0);
        leaves("changes 3;repeat 6(take abc;);changes 2;", 8, 2);
        leaves("changes 3;repeat 7(take abc;);changes 2;", 7, 3);
        leaves("changes 3;repeat 6(best;);changes 2;", 8, 2);
        leaves("changes 3;repeat 6(best;);best;changes 2;", 7, 3);
        leaves("changes 0;best;best;best;changes 3;", 3, 0);
        leaves("out x;out x;changes 3;", 1, 1);
        leaves("in x;changes 3;", 0, 1);
        leaves("changes 3;changes 4;changes 2;", 1, 3);
        leaves("changes 0;changes 999;changes 2;", 1, 0);
        leaves("repeat 5(changes 2;out x;);changes 3;", 3, 2);
        leaves("repeat 5(repeat 5(changes 2;out x;);changes 3;);changes 0;", 3, 2);
        text(XYZ);
        due("done before a repeat, and within", y -> run(y, "choose y 1;repeat 2(choose x 2;out z;);changes 3;"), 4);
        due("stays done", y -> reported(y), "x abCAB\ny bCABc\n-z aac\n");
        due("can be undone", y -> y.undo(), 0);
        due("as a whole", y -> reported(y), "x abcab\ny bcabc\nz aac\n");
    }

    void section6EndsAt40() {
        section(6, "It also ends early when 40 commands (\"repeat\" not counted) were done.");
        leaves("repeat 3(repeat 13(changes 2;););", 39, 2);
        leaves("repeat 3(repeat 13(changes 2;););changes 3;", 40, 3);
        leaves("repeat 3(repeat 13(changes 2;););changes 3;changes 0;", 40, 3);
        leaves("repeat 2(repeat 20(changes 2;););", 40, 2);
        leaves("repeat 2(repeat 20(changes 2;););changes 3;", 40, 2);
        leaves("repeat 20(changes 1;changes 0;changes 3;);", 40, 1);
        leaves("repeat 20(repeat 20(););repeat 20(changes 1;changes 2;);", 40, 2);
        leaves("repeat 20(changes 1;changes 2;);repeat 20(repeat 20(););", 40, 2);
        // A refused command is not one of the forty.
        leaves("repeat 3(repeat 13(changes 2;););out x;changes 3;", 40, 2);
        leaves("repeat 3(repeat 13(changes 2;););in x;changes 3;", 39, 2);
        text(XYZ, y -> run(y, "repeat 20(changes 1;changes 2;changes 3;);"));
        due("undone as a whole", y -> y.undo(), 0);
        due("the changes before", y -> y.setting(3), 1);
        due("the next script counts anew", y -> run(y, "repeat 20(changes 1;changes 2;);"), 40);
    }

    void section6Error1And2() {
        section(6, "Errors: 1 and 2 as above;");
        wrong("changes 2;#", 1, 10);
        wrong("changes 2;row", 1, 10);
        wrong("changes 2;choose", 1, 16);
        wrong("clear abcdefghi;", 1, 6);
        wrong("repeat 21(", 2, 7);
        wrong("repeat 1(repeat 0(););", 2, 16);
    }

    void section6Error3() {
        section(6, "3: a NAME that no row has, a WORD that has not L letters, or a letter that there is not;");
        wrong("choose w 1;", 3, 7);
        wrong("clear xx;", 3, 6);
        wrong("better w;", 3, 7);
        wrong("out w;", 3, 4);
        wrong("in w;", 3, 3);
        does("take abc;", 1);
        wrong("take a;", 3, 5);
        wrong("take ab;", 3, 5);
        wrong("take abca;", 3, 5);
        wrong("take abd;", 3, 5);
        wrong("take dbb;", 3, 5);
        wrong("take abz;", 3, 5);
        wrong("take abcz;", 3, 5);
        wrong("best;clear w", 3, 11);
        text("letters 2;length 2;changes 3;row q abab;");
        due("the letters of another text", y -> run(y, "take ba;"), 1);
        due("a letter that there is not", y -> run(y, "take bc;"), ARGUMENT);
        due("its code", y -> y.errorCode(), 3);
        due("a name of the text before", y -> run(y, "out x;"), ARGUMENT);
        due("its code, too", y -> y.errorCode(), 3);
        text("length 6;row q abcdabcd;");
        due("six letters", y -> run(y, "take abcdab;"), 1);
        due("seven", y -> run(y, "take abcdabc;"), ARGUMENT);
        due("the code of seven", y -> y.errorCode(), 3);
        due("five", y -> run(y, "take abcda;"), ARGUMENT);
        due("the code of five", y -> y.errorCode(), 3);
        begin();
        due("no row has a name", y -> run(y, "clear x;"), ARGUMENT);
        due("its position", y -> y.errorPosition(), 6);
    }

    void section6Error4() {
        section(6, "4: the first word of a \"repeat\" within two others;");
        does("repeat 1(repeat 1(changes 2;););", 1);
        wrong("repeat 1(repeat 1(repeat 1(changes 2;);););", 4, 18);
        wrong("repeat 1(repeat 1(best;repeat", 4, 23);
        wrong("repeat 1(repeat 1();repeat 1(repeat 0", 4, 29);
        does("repeat 1(repeat 1(changes 2;);repeat 1(changes 3;););repeat 1(repeat 1(changes 2;););", 3);
        // Also as the 31st command, of which another code tells, too.
        wrong("best;".repeat(28) + "repeat 1(repeat 1(repeat 1();););", 4, 158);
    }

    void section6Error6() {
        section(6, "6: the first word of a 31st command of the text (\"repeat\" counts as one, too).");
        does("changes 2;".repeat(30), 30);
        wrong("changes 2;".repeat(30) + "changes 2;", 6, 300);
        wrong("changes 2;".repeat(30) + " best", 6, 301);
        wrong("changes 2;".repeat(30) + "beat", 1, 300);
        wrong("changes 2;".repeat(30) + ";", 1, 300);
        does("changes 2;".repeat(29) + "repeat 2();", 29);
        wrong("changes 2;".repeat(30) + "repeat 2();", 6, 300);
        does("changes 2;".repeat(28) + "repeat 2(changes 2;);", 30);
        wrong("changes 2;".repeat(29) + "repeat 2(changes 2;);", 6, 299);
        wrong("changes 2;".repeat(28) + "repeat 2(changes 2;);changes 2;", 6, 301);
        wrong("changes 2;".repeat(28) + "repeat 2(repeat 2(changes 2;););", 6, 298);
        does("changes 2;".repeat(28) + "repeat 2(repeat 2(););", 28);
        wrong("repeat 1();".repeat(30) + "repeat 1();", 6, 330);
        does("repeat 1();".repeat(30), 0);
    }

    // ---- promise 5

    void promise5ReadsRuns() {
        promise(5, "Reads the whole buffer as a script, empties the buffer, also if the text has an error, and runs the"
                + " script.");
        text(XYZ, y -> feed(y, "changes 2;changes 3;", "\0"), y -> y.truncate(10));
        due("what was truncated is not run", y -> y.runScript(), 1);
        due("empties the buffer", y -> sizeOf(y), 0);
        due("an empty buffer", y -> y.runScript(), 0);
        x.feed(0x62657374, 0x3b242020, 0, 0, 0);
        due("a wrong script", y -> y.runScript(), ARGUMENT);
        due("empties the buffer, too", y -> sizeOf(y), 0);
        due("and is not run", y -> y.setting(8), 0);
        text(XYZ, y -> feed(y, "changes 2;" + " ".repeat(590), "\0"));
        due("a full buffer", y -> y.runScript(), 1);
        due("is empty then", y -> y.feed(0, 0, 0, 0, 0), 20);
        begin();
        due("a script of a new object", y -> run(y, "improve 50;changes 3;best;"), 2);
    }

    void promise5Returns() {
        promise(5, "Returns the number of commands that were done, \"repeat\" not counted.");
        does("", 0);
        does("clear x;", 0);
        does("changes 2;", 1);
        does("repeat 20(repeat 20(););", 0);
        does("repeat 2(changes 2;);changes 1;", 3);
        does("repeat 20(changes 1;changes 2;);", 40);
    }

    void promise5Throws() {
        promise(5, "Throws `IllegalArgumentException` if the text has an error; only the buffer, errorCode() and"
                + " errorPosition() change then");
        wrong("choose x 1;take aac;out y;changes 3;improve 50;best;$", 1, 52);
        wrong("repeat 2(choose x 1;);choose", 1, 28);
        begin();
        refusedText("in a new object", y -> fedAndRun(y, "changes 2;clear x;", "\0"), y -> y.truncate(0));
        text(XYZ, y -> y.take(AAC), y -> feed(y, "best", "\0"));
        due("a wrong script", y -> y.runScript(), ARGUMENT);
        due("cannot be undone, but what was before it", y -> y.undo(), 0);
        due("nothing is left to undo", y -> y.undo(), NONE);
    }
}
