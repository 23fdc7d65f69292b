import java.util.Set;

/** Tests of the sentences of "Texts": the forms of the orders, what they do, and the fault positions. */
final class GrammarTest {
    private static final String LETTERS = "abcdefghijklmnopqrstuvwxyz";

    private GrammarTest() {
    }

    /** Texts without a fault: they are done, or an order of them is refused. */
    private static void right(String... texts) {
        for (String text : texts) {
            Scene s = Scene.of("clock 0 0, bill 0 0 1").play("type " + text);
            String answer = s.answerOf("run");
            Check.isSo("\"" + text + "\" answered " + answer,
                answer.equals(String.valueOf(text.split(";").length))
                    || answer.equals("throws.UnsupportedOperationException"));
            s.due("faultPosition", -1).due("account 12", 0);
        }
    }

    private static void wrong(String text, int position) {
        Scene.of("clock 0 0, hour 1").fault(text, position);
    }

    /** Each beginning of a right text ends too early, but for those of the lengths that are told. */
    private static void beginnings(String text, Set<Integer> right) {
        for (int length = 0; length <= text.length(); length++) {
            String beginning = text.substring(0, length);
            if (length == text.length() || right.contains(length)) {
                right(beginning);
            } else {
                wrong(beginning, length);
            }
        }
    }

    /** At the place of a digit no other sign can stand, not even one just below 0 or just above 9. */
    private static void digitAt(String text, int place) {
        for (char sign : new char[] {'0', '1', '8', '9'}) {
            right(text.substring(0, place) + sign + text.substring(place + 1));
        }
        for (char sign : new char[] {'/', ':', ' ', '+', '-', 'a', ';'}) {
            // Of a key alone a "-" can take the place of the clock.
            if (sign != '-' || !text.startsWith("key") || place != 6) {
                wrong(text.substring(0, place) + sign + text.substring(place + 1), place);
            }
        }
    }

    // The form

    @Sentence(of = "Texts", promise = {33, 34},
        says = {"The form of a text of orders is", "text = order { \";\" order }"})
    static void ordersWithSemicolons() {
        Scene.of("").text("hour", 1).text("hour;hour", 2).text("hour;hour;hour", 3)
            .text("hour;hour;hour;hour;hour;hour;hour;hour;hour;hour;hour;hour", 12).due("account 4", 18);
        wrong("", 0);
        wrong(";", 0);
        wrong(";hour", 0);
        wrong("hour;", 5);
        wrong("hour;;hour", 5);
        wrong("hour; hour", 5);
        wrong(" hour", 0);
        wrong("hour hour", 5);
        wrong("hour,hour", 4);
        wrong("hour:hour", 4);
        wrong("hourhour", 4);
        wrong("hour;hour;", 10);
        // 60 characters are the most, and the last of them can be the first with a fault.
        String sixty = "clock 01 1;clock 02 1;clock 03 1;clock 04 1;clock 05 1;hour ";
        wrong(sixty, 60);
        wrong(sixty.substring(0, 59) + ";", 60);
        wrong(sixty.substring(0, 59) + "x", 59);
        Scene.of("").text("clock 01 1;clock 02 1;clock 03 1;clock 04 1;clock 5 1;hour 9", 6).due("account 4", 9);
    }

    @Sentence(of = "Texts", promise = {33, 34}, says = {"order = \"clock \" number \" \" digit |"})
    static void formOfClock() {
        right("clock 0 0", "clock 59 3", "clock 9 9", "clock 99 9", "clock 00 0", "clock 07 1");
        beginnings("clock 12 3", Set.of());
        digitAt("clock 1 2", 6);
        digitAt("clock 1 2", 8);
        wrong("clock 1 12", 9);
        wrong("clock 123 1", 8);
        wrong("clock  1 1", 6);
        wrong("clock 1  1", 8);
        wrong("clock 1 1 ", 9);
        wrong("clock 1 1 1", 9);
        wrong("clock1 1", 5);
        wrong("clock -1 1", 6);
        wrong("clock 1 -", 8);
    }

    @Sentence(of = "Texts", promise = {33, 34}, says = "\"leave \" digit |")
    static void formOfLeave() {
        right("leave 0", "leave 9");
        beginnings("leave 5", Set.of());
        digitAt("leave 5", 6);
        wrong("leave 12", 7);
        wrong("leave 1 ", 7);
        wrong("leave  1", 6);
        wrong("leave1", 5);
        wrong("leave -", 6);
    }

    @Sentence(of = "Texts", promise = {33, 34}, says = "\"key \" digit \" \" ( digit | \"-\" ) |")
    static void formOfKey() {
        right("key 0 0", "key 9 9", "key 0 -", "key 9 -");
        beginnings("key 0 5", Set.of());
        beginnings("key 0 -", Set.of());
        digitAt("key 1 2", 4);
        digitAt("key 1 2", 6);
        wrong("key - 1", 4);
        wrong("key 1 -1", 7);
        wrong("key 1 --", 7);
        wrong("key 1 12", 7);
        wrong("key 1 - ", 7);
        wrong("key 12 1", 5);
        wrong("key 1-", 5);
        wrong("key 1  -", 6);
        wrong("key 1", 5);
    }

    @Sentence(of = "Texts", promise = {33, 34}, says = "\"wind \" digit \" \" digit |")
    static void formOfWind() {
        right("wind 0 0", "wind 9 9");
        beginnings("wind 3 4", Set.of());
        digitAt("wind 1 2", 5);
        digitAt("wind 1 2", 7);
        wrong("wind 1 -", 7);
        wrong("wind - 1", 5);
        wrong("wind 12 1", 6);
        wrong("wind 1 12", 8);
        wrong("wind 1 1 ", 8);
    }

    @Sentence(of = "Texts", promise = {33, 34}, says = "\"move \" digit \" \" number |")
    static void formOfMove() {
        right("move 0 0", "move 9 9", "move 0 99", "move 0 00", "move 0 01");
        beginnings("move 0 12", Set.of(8));
        digitAt("move 1 2", 5);
        digitAt("move 1 2", 7);
        digitAtSecondOf("move 1 23", 8);
        wrong("move 12 1", 6);
        wrong("move 1 123", 9);
        wrong("move 1 12 ", 9);
        wrong("move 1 1 ", 8);
        wrong("move 1 -", 7);
    }

    @Sentence(of = "Texts", promise = {33, 34}, says = "\"bill \" digit \" \" number \" \" digit |")
    static void formOfBill() {
        right("bill 0 0 0", "bill 9 9 9", "bill 0 99 9", "bill 0 00 1", "bill 0 01 1");
        beginnings("bill 0 12 3", Set.of());
        beginnings("bill 0 1 3", Set.of());
        digitAt("bill 1 2 3", 5);
        digitAt("bill 1 2 3", 7);
        digitAt("bill 1 2 3", 9);
        wrong("bill 12 3 4", 6);
        wrong("bill 1 234 5", 9);
        wrong("bill 1 23 45", 11);
        wrong("bill 1 2 3 ", 10);
        wrong("bill 1 2 3 4", 10);
        wrong("bill 1 23", 9);
    }

    @Sentence(of = "Texts", promise = {33, 34}, says = "\"adjourn \" digit \" \" number |")
    static void formOfAdjourn() {
        right("adjourn 0 0", "adjourn 9 9", "adjourn 0 99", "adjourn 0 00", "adjourn 0 01");
        beginnings("adjourn 0 12", Set.of(11));
        digitAt("adjourn 1 2", 8);
        digitAt("adjourn 1 2", 10);
        digitAtSecondOf("adjourn 1 23", 11);
        wrong("adjourn 12 1", 9);
        wrong("adjourn 1 123", 12);
        wrong("adjourn 1 1 ", 11);
    }

    @Sentence(of = "Texts", promise = {33, 34}, says = "\"drop \" digit |")
    static void formOfDrop() {
        right("drop 0", "drop 9");
        beginnings("drop 5", Set.of());
        digitAt("drop 5", 5);
        wrong("drop 12", 6);
        wrong("drop 1 ", 6);
        wrong("drop  1", 5);
    }

    @Sentence(of = "Texts", promise = {33, 34}, says = "\"vote\" |")
    static void formOfVote() {
        right("vote");
        beginnings("vote", Set.of());
        wrong("vote ", 4);
        wrong("vote 1", 4);
        wrong("votes", 4);
        wrong("vote;", 5);
    }

    @Sentence(of = "Texts", promise = {33, 34}, says = "\"hour\" [ \" \" number ]")
    static void formOfHour() {
        right("hour", "hour 0", "hour 9", "hour 00", "hour 01", "hour 24", "hour 99");
        beginnings("hour 12", Set.of(4, 6));
        digitAt("hour 1", 5);
        digitAtSecondOf("hour 12", 6);
        wrong("hour ", 5);
        wrong("hour  1", 5);
        wrong("hour 123", 7);
        wrong("hour 1 ", 6);
        wrong("hour 1 1", 6);
        wrong("hour1", 4);
        wrong("hours", 4);
        wrong("hour -", 5);
    }

    @Sentence(of = "Texts", promise = {33, 34}, says = "number = digit [ digit ]")
    static void oneDigitOrTwo() {
        Scene.of("clock 0 0").text("move 0 5", 1).due("clockOf 0 0", 5).text("move 0 05", 1).due("clockOf 0 0", 10)
            .text("move 0 15", 1).due("clockOf 0 0", 25).text("move 0 50", 1).due("clockOf 0 0", 15);
        Scene.of("").text("clock 0 0;clock 00 0;clock 9 0", 3)
            .text("clock 09 0;clock 10 0;clock 59 0", 3).due("clockOf 0 0", 0)
            .due("clockOf 1 0", 0).due("clockOf 2 0", 9).due("clockOf 3 0", 9).due("clockOf 4 0", 10)
            .due("clockOf 5 0", 59).refusedText("clock 60 0", 0, 3, 60).refusedText("clock 99 0", 0, 3, 99);
        wrong("move 0 ", 7);
        wrong("move 0 005", 9);
        wrong("clock 000 1", 8);
        wrong("bill 0 ", 7);
        wrong("bill 0  1", 7);
    }

    @Sentence(of = "Texts", promise = {33, 34}, says = {"where braces mean zero or more repetitions,",
        "brackets that something can be left out,", "a bar one of several,"})
    static void braceBracketsAndBars() {
        Scene.of("").text("hour", 1).text("hour;hour", 2).text("hour 2;hour;hour 03", 3).due("account 4", 9);
        Scene.of("").refusedText("hour 1;hour 10;hour 25", 2, 3, 25);
        Scene.of("clock 0 0, clock 0 0").text("key 0 1", 1).due("keeper 0", 1).text("key 0 -", 1).due("keeper 0", -1);
    }

    @Sentence(of = "Texts", promise = {33, 34}, says = "and a digit is one from 0 to 9.")
    static void digitsFrom0To9() {
        for (char sign = 32; sign <= 126; sign++) {
            String text = "leave " + sign;
            if (sign >= '0' && sign <= '9') {
                Scene.of("").refusedText(text, 0, 2, sign - '0');
            } else {
                Scene s = Scene.of("");
                s.play("append 104, append 111, append 117, append 114, append 59");
                for (char letter : text.toCharArray()) {
                    s.play("append " + (int) letter);
                }
                s.due("run", "throws.IllegalArgumentException").due("faultPosition", 11);
            }
        }
    }

    private static void digitAtSecondOf(String text, int place) {
        for (char sign : new char[] {'0', '1', '8', '9'}) {
            right(text.substring(0, place) + sign);
        }
        for (char sign : new char[] {'/', ':', ' ', '-', 'a'}) {
            wrong(text.substring(0, place) + sign, place);
        }
        right(text.substring(0, place) + ";hour");
    }

    // What the orders do

    @Sentence(of = "Texts", promise = {33},
        says = {"The orders are:", "clock, one comes with its second and its leaning;"})
    static void orderClock() {
        Scene.of("").text("clock 0 0;clock 59 3;clock 7 1", 3).due("account 0", 3).line("tell 0", "0:0~24<0")
            .line("tell 1", "1:59~24<3").line("tell 2", "2:7~24<1").refusedText("clock 60 0", 0, 3, 60)
            .refusedText("clock 0 4", 0, 3, 4);
    }

    @Sentence(of = "Texts", promise = {33}, says = "leave, one leaves;")
    static void orderLeave() {
        Scene.of("clock 1 0, clock 2 0, clock 3 0").text("leave 1", 1).due("account 0", 2).due("clockOf 0 0", 1)
            .due("clockOf 1 0", 3).refusedText("leave 2", 0, 2, 2).text("leave 1;leave 0", 2).due("account 0", 0)
            .refusedText("leave 0", 0, 2, 0).refusedText("leave 9", 0, 2, 9);
    }

    @Sentence(of = "Texts", promise = {33}, says = "key, a key goes to a clock, or to nobody;")
    static void orderKey() {
        Scene.of("clock 1 0, clock 2 0").text("key 2 1;key 0 0", 2).due("keeper 2", 1).due("keeper 0", 0)
            .due("keeper 1", -1).text("key 2 0;key 0 -", 2).due("keeper 2", 0).due("keeper 0", -1)
            .refusedText("key 0 -", 0, 4, -1).refusedText("key 3 -", 0, 2, 3).refusedText("key 0 2", 0, 2, 2)
            .refusedText("key 9 9", 0, 2, 9);
    }

    @Sentence(of = "Texts", promise = {33}, says = "wind, with a key a clock is wound;")
    static void orderWind() {
        Scene.of("clock 1 0, clock 6 0, key 2 0, hour 5").text("wind 2 1", 1).due("clockOf 1 1", 24)
            .due("clockOf 0 1", 19).due("account 11", 1).refusedText("wind 2 1", 0, 4, 24)
            .refusedText("wind 1 0", 0, 5, 1).refusedText("wind 3 0", 0, 2, 3).refusedText("wind 2 2", 0, 2, 2)
            .text("wind 2 0", 1).due("account 11", 2);
    }

    @Sentence(of = "Texts", promise = {33}, says = "move, the second of a clock goes on by so many;")
    static void orderMove() {
        Scene.of("clock 1 0, clock 6 0").text("move 1 59;move 0 1", 2).line("tell 0", "0:2~23<0")
            .line("tell 1", "1:5~18<0").refusedText("move 1 60", 0, 3, 60).refusedText("move 1 0", 0, 3, 0)
            .refusedText("move 2 1", 0, 2, 2);
    }

    @Sentence(of = "Texts", promise = {33},
        says = "bill, a clock moves a bill about a second that needs so many chimes;")
    static void orderBill() {
        Scene.of("clock 1 0, clock 6 0").text("bill 1 59 9;bill 0 0 1", 2).line("tellBill 0", "0@59+9")
            .line("tellBill 1", "1@0+1").due("billOf 0 0", 1).due("billOf 1 0", 0).line("tellRow", "0 1")
            .refusedText("bill 1 60 1", 0, 3, 60).refusedText("bill 1 0 0", 0, 3, 0).refusedText("bill 2 0 1", 0, 2, 2);
    }

    @Sentence(of = "Texts", promise = {33}, says = "adjourn, a bill is adjourned for so many hours;")
    static void orderAdjourn() {
        Scene.of("clock 1 0, bill 0 0 1, bill 0 0 1, bill 0 0 1").text("adjourn 2 12;adjourn 0 1", 2)
            .due("billOf 2 3", 12).due("billOf 0 3", 1).due("billOf 1 3", 0).line("tellRow", "1")
            .refusedText("adjourn 1 13", 0, 3, 13).refusedText("adjourn 1 0", 0, 3, 0)
            .refusedText("adjourn 2 1", 0, 8, 12).refusedText("adjourn 3 1", 0, 2, 3);
    }

    @Sentence(of = "Texts", promise = {33}, says = "drop, a bill is done with;")
    static void orderDrop() {
        Scene.of("clock 1 3, bill 0 0 1, bill 0 1 1, bill 0 2 1, adjourn 2 3").text("drop 2;drop 0", 2)
            .due("account 2", 1).line("tellBill 0", "0@1+1").refusedText("drop 1", 0, 2, 1).text("drop 0", 1)
            .due("account 2", 0).due("account 6", 0).refusedText("drop 0", 0, 2, 0);
    }

    @Sentence(of = "Texts", promise = {33}, says = "vote, there is a vote;")
    static void orderVote() {
        Scene.of("clock 1 3, bill 0 1 3, bill 0 1 4, bill 0 31 1").text("vote;vote", 2).due("account 6", 2)
            .due("account 7", 1).due("account 9", 6).text("vote", 1).due("account 6", 2).due("billOf 0 3", 1)
            .refusedText("vote", 0, 9, 1).refusedText("hour;vote;vote", 2, 9, 1);
    }

    @Sentence(of = "Texts", promise = {33}, says = "hour, so many hours go by, or one.")
    static void orderHour() {
        Scene.of("clock 1 0").text("hour", 1).due("account 4", 1).text("hour 1", 1).due("account 4", 2)
            .text("hour 2", 1).due("account 4", 4).text("hour 24", 1).due("account 4", 28).text("hour 1;hour", 2)
            .due("account 4", 30).text("hour;hour 3;hour", 3).due("account 4", 35)
            .refusedText("hour 0", 0, 3, 0).refusedText("hour 25", 0, 3, 25).refusedText("hour 99", 0, 3, 99)
            .refusedText("hour 00", 0, 3, 0);
    }

    // Faults

    @Sentence(of = "Texts", promise = {34},
        says = "The fault position of a text is the index of the first character that "
        + "cannot continue such a text,")
    static void theFirstCharacterThatCannotContinue() {
        // Each sign in the place of each character of each form, beside a second way to look for the fault.
        String[] texts = {"clock 12 3", "leave 1", "key 1 2", "key 1 -", "wind 1 2", "move 1 23", "bill 1 23 4",
            "adjourn 1 12", "drop 1", "vote;vote", "hour", "hour 12;hour;vote"};
        for (String text : texts) {
            for (int place = 0; place <= text.length(); place++) {
                for (char sign = 32; sign <= 126; sign++) {
                    String changed = text.substring(0, place) + sign
                        + (place < text.length() ? text.substring(place + 1) : "");
                    ClockParliament x = new ClockParliament();
                    Check.type(x, changed);
                    int due = Model.faultIn(changed);
                    Check.same("fault in \"" + changed + "\"", Check.thrownBy(x::run).startsWith("IllegalArgument"),
                        due >= 0);
                    Check.same("fault position in \"" + changed + "\"", x.faultPosition(), due);
                }
            }
        }
        wrong("vote;clock 5 1;xyz", 15);
        wrong("vote vote", 4);
        wrong("xvote", 0);
        // What stands behind the fault does not matter.
        wrong("vo!e;#", 2);
    }

    @Sentence(of = "Texts", promise = {34}, says = "or its length if it ends too early;")
    static void theLengthIfItEndsTooEarly() {
        wrong("", 0);
        wrong("c", 1);
        wrong("vot", 3);
        wrong("vote;", 5);
        wrong("vote;h", 6);
        wrong("vote;hour ", 10);
        wrong("vote;hour 1;", 12);
        wrong("key 1 ", 6);
        wrong("bill 1 2", 8);
        Scene.of("").text("hour", 1).text("hour 1", 1).text("hour 12", 1);
    }

    @Sentence(of = "Texts", promise = {34}, says = "words are looked at letter by letter.")
    static void letterByLetter() {
        String[] words = {"clock", "leave", "key", "wind", "move", "bill", "adjourn", "drop", "vote", "hour"};
        String firsts = "clkwmbadvh";
        for (String word : words) {
            for (int place = 0; place < word.length(); place++) {
                for (char letter : LETTERS.toCharArray()) {
                    boolean canBe = place == 0 ? firsts.indexOf(letter) >= 0 : letter == word.charAt(place);
                    if (!canBe) {
                        Scene s = Scene.of("").play("type " + word.substring(0, place) + letter);
                        s.due("run", "throws.IllegalArgumentException").due("faultPosition", place);
                    }
                }
                String upper = word.substring(0, place) + Character.toUpperCase(word.charAt(place));
                Scene.of("").play("type " + upper).due("run", "throws.IllegalArgumentException")
                    .due("faultPosition", place);
                wrong(word.substring(0, place), place);
            }
        }
        // The first letter tells the word; the letters of another word cannot follow.
        wrong("volte", 2);
        wrong("hove", 2);
        wrong("leove", 2);
        wrong("bell 0 1 1", 1);
        wrong("wove", 1);
        wrong("drove", 3);
        wrong("adjust", 3);
        wrong("hour;hous", 8);
    }
}
