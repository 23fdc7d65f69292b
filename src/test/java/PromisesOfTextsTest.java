/** Tests of the sentences of the promises 32 to 39: texts, reasons, and lines. */
final class PromisesOfTextsTest {
    private static final int LEAST = Integer.MIN_VALUE;
    private static final int MOST = Integer.MAX_VALUE;
    private static final String SIXTY = "clock 01 1;clock 02 1;clock 03 1;clock 04 1;clock 5 1;hour 9";

    private PromisesOfTextsTest() {
    }

    // Promise 32

    @Sentence(of = "Promise 32", says = {"Appends a character to the input.", "`character`: the character",
        "Returns the number of characters in the input."})
    static void appendReturnsTheNumberOfCharacters() {
        Scene s = Scene.of("");
        for (int length = 1; length <= 60; length++) {
            s.due("append " + (31 + length), length).due("account 12", length);
        }
        Scene.of("").due("append 104", 1).due("append 111", 2).due("append 117", 3).due("append 114", 4).due("run", 1)
            .due("account 4", 1).due("append 120", 1);
    }

    @Sentence(of = "Promise 32", says = "Throws `IllegalArgumentException` if its code is not from 32 to 126")
    static void codesOfCharacters() {
        for (int code : new int[] {0, 9, 10, 13, 31, 127, 128, 160, 255, 256, 32 + 65536 / 2, 65535}) {
            Scene.of("clock 0 0, type ho").noArgument("append " + code).due("account 12", 2).due("append 117", 3)
                .due("append 114", 4).due("run", 1);
        }
        for (int code = 32; code <= 126; code++) {
            Scene.of("").due("append " + code, 1);
        }
    }

    @Sentence(of = "Promise 32", says = "Throws `IllegalStateException` if the input contains 60 characters")
    static void theInputIsFull() {
        Check.same("the text", SIXTY.length(), 60);
        Scene s = Scene.of("type " + SIXTY.substring(0, 58)).due("append 32", 59).due("append 57", 60)
            .noState("append 57").noState("append 59").noArgument("append 31").due("account 12", 60);
        s.due("run", 6).due("account 4", 9).due("account 0", 5).due("append 57", 1);
        // A text that is full and has a fault, or whose order is refused, makes room, too.
        Scene.of("type " + SIXTY.substring(0, 59) + "x").noState("append 57")
            .due("run", "throws.IllegalArgumentException")
            .due("append 57", 1);
        Scene.of("clock 0 0, clock 0 0, clock 0 0, clock 0 0, type " + SIXTY).noState("append 57")
            .due("run", "throws.UnsupportedOperationException").due("append 57", 1);
    }

    // Promise 33

    @Sentence(of = "Promise 33",
        says = {"Reads the input as a text and does its orders, one after the other, all or none.",
        "Returns the number of orders."})
    static void allOrNone() {
        Scene s = Scene.of("").text("clock 30 3", 1).text("clock 31 0;bill 1 30 1;vote;hour;key 2 1", 5);
        s.due("account 0", 2).due("account 6", 1).due("account 4", 1).due("keeper 2", 1).due("account 13", 2);
        // Each order sees what the orders ahead have done.
        s.text("clock 0 0;leave 2;bill 0 0 1;adjourn 0 1;hour;drop 0", 6).due("account 2", 0);
        String state = s.state();
        s.refusedText("leave 2", 0, 2, 2).refusedText("clock 5 1;leave 2;leave 2", 2, 2, 2)
            .refusedText("hour 24;wind 2 1;wind 2 1", 2, 4, 24)
            .refusedText("bill 0 0 1;bill 0 0 1;drop 0;drop 1", 3, 2, 1);
        Check.same("none is done", s.state(), state);
        s.text("clock 5 1;leave 2", 2).text("hour;hour;hour;hour;hour;hour;hour;hour;hour;hour;hour;hour", 12);
    }

    @Sentence(of = "Promise 33", says = "The input is empty afterwards, also if an exception is thrown.")
    static void theInputIsEmptyAfterwards() {
        Scene.of("").text("hour", 1).due("account 12", 0).text("hour 2", 1).due("account 4", 3);
        Scene.of("").fault("hours", 4).due("account 12", 0).text("hour", 1).due("account 4", 1);
        Scene.of("").refusedText("hour;vote", 1, 9, 0).due("account 12", 0).text("hour", 1).due("account 4", 1);
        Scene.of("").fault("", 0).due("account 12", 0).due("append 32", 1);
    }

    @Sentence(of = "Promise 33", says = "Throws `IllegalArgumentException` if the text has a fault")
    static void aTextWithAFault() {
        Scene.of("clock 0 0, clock 1 0").fault("", 0).fault("clock 1 1;", 10).fault("clock 1 1;x", 10)
            .fault("clock 1 1 ", 9).fault("leave 0;hour 123", 15).fault("leave 0,", 7).due("account 0", 2)
            .fault("leave 9;leave", 13).text("leave 0", 1);
    }

    @Sentence(of = "Promise 33",
        says = "Throws `UnsupportedOperationException` if an order is refused, for the reasons for "
        + "which its method is; the reason 11 is kept")
    static void anOrderIsRefused() {
        Scene.of("clock 0 0, clock 6 0, bill 0 0 1, adjourn 0 2, key 0 0").refusedText("hour;clock 60 0", 1, 3, 60)
            .refusedText("leave 2", 0, 2, 2).refusedText("hour;key 0 0", 1, 4, 0).refusedText("wind 0 1", 0, 10, 6)
            .refusedText("wind 1 0", 0, 5, 1).refusedText("hour 23;move 0 10", 1, 6, 1)
            .refusedText("hour 24;move 0 1", 1, 7, 23).refusedText("hour 24;bill 1 0 1", 1, 7, 29)
            .refusedText("adjourn 0 1", 0, 8, 2).refusedText("hour;adjourn 0 1", 1, 8, 1).refusedText("drop 1", 0, 2, 1)
            .refusedText("vote", 0, 9, 1).refusedText("hour 25", 0, 3, 25);
        Scene.of("clock 0 0, clock 0 0, clock 0 0, clock 0 0, clock 0 0, clock 0 0").refusedText(
            "clock 1 1;clock 1 1;clock 1 1", 2, 1, 8).text("clock 1 1;clock 1 1", 2);
        Scene.of("clock 0 0, bill 0 0 1, bill 0 0 1, bill 0 0 1, bill 0 0 1, bill 0 0 1, bill 0 0 1, bill 0 0 1, "
            + "bill 0 0 1").refusedText("bill 0 0 1;bill 0 0 1;bill 0 0 1", 2, 1, 10).text("bill 0 0 1;bill 0 0 1", 2);
    }

    @Sentence(of = "Changes", promise = {33, 43}, says = "run that throw no exception,")
    static void aRunIsOneChange() {
        Scene s = Scene.bare("hour 1, hour 1, hour 1, hour 1, hour 1, hour 1, hour 1, hour 1, hour 1");
        // A refused run gives the oldest of the 8 changes no way out.
        s.due("account 13", 8).refusedText("hour;hour;vote", 2, 9, 0).fault("hour;hour;", 10).due("account 13", 8);
        s.text("hour 2;hour 3;hour 4", 3).due("account 13", 8).due("account 4", 18).due("undo", 7).due("account 4", 9);
        for (int left = 6; left >= 0; left--) {
            s.due("undo", left).due("account 4", left + 2);
        }
        s.noState("undo");
    }

    // Promise 34

    @Sentence(of = "Promise 34", says = {"Returns the fault position of the latest text that was read.",
        "Returns the fault position, or -1 if it had no fault or nothing was read."})
    static void faultOfTheLatestText() {
        Scene s = Scene.bare("").due("faultPosition", -1).play("type ho").due("faultPosition", -1)
            .due("run", "throws.IllegalArgumentException").due("faultPosition", 2).play("type hour, clock 1 1, undo")
            .due("faultPosition", 2).due("run", 1).due("faultPosition", -1);
        s.fault("", 0).fault("hour;x", 5).refusedText("vote", 0, 9, 0).due("faultPosition", -1)
            .fault("x", 0).text("hour", 1).due("faultPosition", -1).fault("hour;hour ", 10)
            .noArgument("append 31").due("faultPosition", 10).play("save, restore").due("faultPosition", 10);
    }

    // Promise 35

    @Sentence(of = "Promise 35", says = {"Returns a number of the reason that is kept, or of what is behind it.",
        "`depth`: 0 for the reason, 1 for its cause",
        "`isDetail`: true for the detail, false for the number of the reason", "Returns the number."})
    static void numbersOfTheReason() {
        Scene s = Scene.bare("clock 5 0").refused("move 0 60", 3, 60).due("reason 0 false", 3).due("reason 0 true", 60)
            .refusedText("hour;move 0 99", 1, 3, 99).due("reason 0 false", 11).due("reason 0 true", 1)
            .due("reason 1 false", 3).due("reason 1 true", 99);
        s.play("hour 1, undo, save, restore").due("reason 1 true", 99).fault("x", 0).due("reason 1 true", 99);
        // Details of 0 and -1 are details, too.
        Scene.bare("").refused("vote", 9, 0).due("reason 0 true", 0).refused("key 0 -1", 4, -1)
            .due("reason 0 true", -1).refusedText("vote", 0, 9, 0).due("reason 0 true", 0).due("reason 1 true", 0);
    }

    @Sentence(of = "Promise 35", says = "Throws `IllegalArgumentException` if the depth is not 0 or 1")
    static void depthOfTheReason() {
        for (int depth : new int[] {-1, 2, 3, LEAST, MOST}) {
            Scene.bare("").noArgument("reason " + depth + " true").noArgument("reason " + depth + " false")
                .refusedText("drop 4", 0, 2, 4).noArgument("reason " + depth + " true")
                .noArgument("reason " + depth + " false").due("reason 0 false", 11).due("reason 1 false", 2);
        }
    }

    @Sentence(of = "Promise 35", says = "Throws `NoSuchElementException` if nothing was refused, or there is no cause")
    static void noReasonOrNoCause() {
        Scene s = Scene.bare("clock 0 0").noElement("reason 0 true").noElement("reason 0 false")
            .noElement("reason 1 true").noElement("reason 1 false").noIndex("tell 4").noElement("reason 0 false")
            .fault("x", 0).noElement("reason 0 false").noElement("reason 1 false");
        s.refused("leave 4", 2, 4).due("reason 0 false", 2).noElement("reason 1 true").noElement("reason 1 false")
            .refusedText("leave 4", 0, 2, 4).due("reason 1 false", 2).refused("leave 3", 2, 3)
            .noElement("reason 1 true").noElement("reason 1 false");
    }

    // Promises 36 to 39

    @Sentence(of = "Promise 36",
        says = {"Writes a clock as a line of text, in place of the line before: its number, \":\" "
        + "and its second, \"~\" and its spring, \"<\" and its leaning, and \"k\" and each key that it has, by their "
        + "numbers; as in \"2:59~24<3k0k2\".", "`clock`: the clock", "Returns the length of the line."})
    static void lineOfAClock() {
        Scene s = Scene.of("clock 0 0, clock 9 1, clock 59 3, key 2 2, key 0 2").due("tell 2", 13)
            .line("tell 2", "2:59~24<3k0k2").line("tell 0", "0:0~24<0").line("tell 1", "1:9~24<1");
        s.play("key 1 2").line("tell 2", "2:59~24<3k0k1k2").play("key 1 0").line("tell 0", "0:0~24<0k1")
            .line("tell 2", "2:59~24<3k0k2").play("hour 1").line("tell 1", "1:10~23<1").line("tell 2", "2:0~23<3k0k2")
            .play("hour 13").line("tell 0", "0:14~10<0k1").play("hour 1").line("tell 0", "0:15~9<0k1")
            .play("hour 9").line("tell 0", "0:23~0<0k1").line("tell 0", "0:23~0<0k1");
        // In place of the line before, a longer one or a shorter one.
        s.line("tellRow", "").line("tell 1", "1:32~0<1");
    }

    @Sentence(of = "Promise 36", says = "Throws `IndexOutOfBoundsException` if there is no such clock")
    static void noClockToTell() {
        for (int clock : new int[] {-1, 2, 3, LEAST, MOST}) {
            Scene s = Scene.bare("clock 5 0, clock 7 1").noIndex("tell " + clock).line("tell 1", "1:7~24<1")
                .noIndex("tell " + clock);
            Check.same("the line stays", s.line(), "1:7~24<1");
        }
        Scene.of("").noIndex("tell 0");
    }

    @Sentence(of = "Promise 37",
        says = {"Writes a bill as a line of text, in place of the line before: its number, \"@\" "
        + "and its second, \"+\" and how many chimes more it needs, and \"h\" and the hours if it is adjourned; as in "
        + "\"0@30+4h2\".", "`bill`: the bill", "Returns the length of the line."})
    static void lineOfABill() {
        Scene s = Scene.of("clock 0 0, bill 0 30 4, bill 0 0 1, bill 0 59 9, adjourn 0 2").due("tellBill 0", 8)
            .line("tellBill 0", "0@30+4h2").line("tellBill 1", "1@0+1").line("tellBill 2", "2@59+9")
            .due("tellBill 2", 6);
        s.play("adjourn 2 12").line("tellBill 2", "2@59+9h12").play("hour 1").line("tellBill 0", "0@30+4h1")
            .line("tellBill 2", "2@59+9h11").play("hour 1").line("tellBill 0", "0@30+4").line("tellBill 2", "2@59+9h10")
            .play("hour 1").line("tellBill 2", "2@59+9h9").play("leave 0").line("tellBill 1", "1@0+1");
    }

    @Sentence(of = "Promise 37", says = "Throws `IndexOutOfBoundsException` if there is no such bill")
    static void noBillToTell() {
        for (int bill : new int[] {-1, 2, 3, LEAST, MOST}) {
            Scene s = Scene.bare("clock 5 0, bill 0 1 1, bill 0 2 2").noIndex("tellBill " + bill)
                .line("tellBill 1", "1@2+2").noIndex("tellBill " + bill);
            Check.same("the line stays", s.line(), "1@2+2");
        }
        Scene.of("clock 0 0").noIndex("tellBill 0");
    }

    @Sentence(of = "Promise 38",
        says = {"Writes the row as a line of text, in place of the line before: the numbers of its "
        + "bills, the first one ahead, with \" \" between two.", "Returns the length of the line."})
    static void lineOfTheRow() {
        Scene s = Scene.of("clock 0 0").due("tellRow", 0).line("tellRow", "").play("bill 0 0 1").due("tellRow", 1)
            .line("tellRow", "0").play("bill 0 0 1").due("tellRow", 3).line("tellRow", "0 1");
        s.play("bill 0 0 1, bill 0 0 1, bill 0 0 1, bill 0 0 1, bill 0 0 1, bill 0 0 1, bill 0 0 1, bill 0 0 1")
            .due("tellRow", 19).line("tellRow", "0 1 2 3 4 5 6 7 8 9").play("adjourn 9 1, adjourn 0 2, hour 2")
            .line("tellRow", "0 9 1 2 3 4 5 6 7 8").play("drop 5").line("tellRow", "0 8 1 2 3 4 5 6 7");
        Scene t = Scene.of("clock 0 0, bill 0 0 1, tell 0, adjourn 0 1").line("tellRow", "").noIndex("character 0");
        t.play("hour 1").line("tellRow", "0").noIndex("character 1");
    }

    @Sentence(of = "Promise 39", says = {"Returns a character of the line, which is empty at first.",
        "`index`: the index, from 0", "Returns the character."})
    static void charactersOfTheLine() {
        Scene.bare("clock 42 1").noIndex("character 0").play("tell 0").due("character 0", '0').due("character 1", ':')
            .due("character 2", '4').due("character 3", '2').due("character 4", '~').due("character 5", '2')
            .due("character 6", '4').due("character 7", '<').due("character 8", '1').noIndex("character 9")
            .play("leave 0").due("character 2", '4').play("undo, save, restore").due("character 3", '2');
    }

    @Sentence(of = "Promise 39", says = "Throws `IndexOutOfBoundsException` if there is no such index")
    static void noSuchIndex() {
        for (int index : new int[] {-1, 5, 6, LEAST, MOST}) {
            Scene.bare("clock 0 0, bill 0 7 3").noIndex("character " + index).play("tell 0, tellBill 0")
                .noIndex("character " + index).due("character 0", '0').due("character 4", '3');
        }
        Scene.bare("").noIndex("character 0").play("tellRow").noIndex("character 0");
    }
}
