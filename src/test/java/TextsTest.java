import java.util.NoSuchElementException;

/** Promises 32 to 39: texts of orders, reasons, and lines. */
final class TextsTest {
    private static final Class<IndexOutOfBoundsException> NO_INDEX = IndexOutOfBoundsException.class;
    private static final Class<IllegalArgumentException> NO_ARGUMENT = IllegalArgumentException.class;
    private static final Class<NoSuchElementException> NO_ELEMENT = NoSuchElementException.class;

    private TextsTest() {
    }

    static void all() {
        append();
        runAllKinds();
        runIsOneChange();
        runAllOrNone();
        runLongest();
        faults();
        faultPosition();
        reason();
        refusalsOfOrders();
        tell();
        tellBill();
        tellRow();
        character();
    }

    private static void append() {
        ClockParliament x = new ClockParliament();
        Check.fails("32: 31", NO_ARGUMENT, () -> x.append((char) 31));
        Check.fails("32: 127", NO_ARGUMENT, () -> x.append((char) 127));
        Check.fails("32: 0", NO_ARGUMENT, () -> x.append((char) 0));
        Check.fails("32: 65535", NO_ARGUMENT, () -> x.append((char) 65535));
        Check.same("32: 32", x.append((char) 32), 1);
        Check.same("32: 126", x.append((char) 126), 2);
        for (int i = 3; i <= 60; i++) {
            Check.same("32: length", x.append('x'), i);
        }
        Check.fails("32: full", IllegalStateException.class, () -> x.append('x'));
        Check.fails("32: code before full", NO_ARGUMENT, () -> x.append((char) 10));
        Check.same("32: still 60", x.account(12), 60);
        Check.same("32: no change", x.account(13), 0);
    }

    private static void runAllKinds() {
        ClockParliament x = new ClockParliament();
        Check.same("33: clocks", Check.run(x, "clock 5 3;clock 59 0;clock 07 1"), 3);
        Check.same("33: second and leaning", Check.clock(x, 1), "1:59~24<0");
        Check.same("33: leading 0", Check.clock(x, 2), "2:7~24<1");
        Check.same("33: leave", Check.run(x, "leave 1"), 1);
        Check.same("33: keys", Check.run(x, "key 0 1;key 2 0;key 2 -"), 3);
        Check.same("33: keepers", x.keeper(0) + " " + x.keeper(2), "1 -1");
        Check.same("33: move", Check.run(x, "move 1 3;move 0 12"), 2);
        Check.same("33: moved", Check.clock(x, 0), "0:17~22<3");
        Check.same("33: bills", Check.run(x, "bill 0 9 1;bill 1 30 2;bill 0 17 3"), 3);
        Check.same("33: bill", Check.bill(x, 1), "1@30+2");
        Check.same("33: adjourn", Check.run(x, "adjourn 1 12;adjourn 2 1"), 2);
        Check.same("33: adjourned", Check.bill(x, 1), "1@30+2h12");
        Check.same("33: hour", Check.run(x, "hour;hour 1;hour 02"), 3);
        Check.same("33: hours", x.account(4), 4);
        Check.same("33: row", Check.row(x), "2 0");
        Check.same("33: wind", Check.run(x, "wind 0 1"), 1);
        Check.same("33: wound", x.clockOf(1, 1), 24);
        Check.same("33: drop and vote", Check.run(x, "drop 0;vote"), 2);
        Check.same("33: voted", x.account(6), 1);
        Check.same("33: left", Check.bill(x, 0), "0@30+2h8");
        Check.same("33: 22 hours and none", Check.run(x, "hour 22"), 1);
        Check.same("33: hour 26", x.account(4), 26);
    }

    private static void runIsOneChange() {
        ClockParliament x = new ClockParliament();
        x.clock(1, 1);
        Check.run(x, "clock 2 2;clock 3 3;key 0 0");
        Check.same("33: two changes", x.account(13), 2);
        Check.same("33: input is empty", x.account(12), 0);
        Check.same("33: undone at once", x.undo(), 1);
        Check.same("33: as before", x.account(0) + " " + x.keeper(0), "1 -1");
        Check.same("33: input stays empty", x.account(12), 0);
    }

    private static void runAllOrNone() {
        ClockParliament x = new ClockParliament();
        for (int i = 0; i < 8; i++) {
            x.clock(i, 0);
        }
        x.hour(3);
        Check.type(x, "leave 0;hour;key 0 1;wind 0 1;clock 1 1;clock 1 1;vote");
        Check.fails("33: refused", UnsupportedOperationException.class, () -> x.run());
        Check.same("33: reason 11", Check.kept(x), "11 5");
        Check.same("33: its cause", Check.cause(x), "1 8");
        Check.same("33: no clock left", Check.clock(x, 7), "7:10~21<0");
        Check.same("33: no hour", x.account(4), 3);
        Check.same("33: no winding", x.account(11), 0);
        Check.same("33: no key", x.keeper(0), -1);
        Check.same("33: no change", x.account(13), 8);
        Check.same("33: input is empty", x.account(12), 0);
        Check.same("33: no fault", x.faultPosition(), -1);
        for (int i = 7; i >= 0; i--) {
            Check.same("33: all can be undone", x.undo(), i);
        }
        Check.same("33: the oldest change was kept", x.account(0), 1);
        Check.type(x, "clock 1 1;clock 1 1;");
        Check.fails("33: fault", NO_ARGUMENT, () -> x.run());
        Check.same("33: nothing before a fault", x.account(0), 1);
        Check.same("33: input is empty by a fault", x.account(12), 0);
    }

    private static void runLongest() {
        ClockParliament x = new ClockParliament();
        Check.same("33: 12 orders", Check.run(x, "hour;hour;hour;hour;hour;hour;hour;hour;hour;hour;hour;hour"), 12);
        Check.same("33: 12 hours", x.account(4), 12);
        String sixty = "clock 01 1;clock 02 1;clock 03 1;clock 04 1;clock 05 1;hour ";
        Check.type(x, sixty);
        Check.same("33: 60 characters", x.account(12), 60);
        Check.fails("33: ends too early", NO_ARGUMENT, () -> x.run());
        Check.same("34: 60", x.faultPosition(), 60);
    }

    private static void faults() {
        fault("", 0);
        fault(";", 0);
        fault(" ", 0);
        fault("x", 0);
        fault("Vote", 0);
        fault("c", 1);
        fault("clack", 2);
        fault("clock", 5);
        fault("clock5", 5);
        fault("clock ", 6);
        fault("clock  5 1", 6);
        fault("clock 5", 7);
        fault("clock 55", 8);
        fault("clock 555 1", 8);
        fault("clock 55 ", 9);
        fault("clock 5 12", 9);
        fault("clock 5 -", 8);
        fault("clock - 1", 6);
        fault("leave", 5);
        fault("leave 11", 7);
        fault("leave 1 ", 7);
        fault("leave -", 6);
        fault("lease", 3);
        fault("key 0", 5);
        fault("key - 0", 4);
        fault("key 0 --", 7);
        fault("key 0 -1", 7);
        fault("key 0 12", 7);
        fault("key 0 x", 6);
        fault("wind 1", 6);
        fault("wind 1 -", 7);
        fault("wind 1 22", 8);
        fault("winding", 4);
        fault("move 0 123", 9);
        fault("move 00 1", 6);
        fault("move 0 ", 7);
        fault("bill 1 23", 9);
        fault("bill 1 23 45", 11);
        fault("bill 1 234 5", 9);
        fault("bill 12 3 4", 6);
        fault("adjourn 1 123", 12);
        fault("adjourn 1", 9);
        fault("adjust", 3);
        fault("drop 10", 6);
        fault("drop ", 5);
        fault("vote ", 4);
        fault("votes", 4);
        fault("vote 1", 4);
        fault("vote;", 5);
        fault("vote;;vote", 5);
        fault("vote; vote", 5);
        fault("vote,vote", 4);
        fault("hour ", 5);
        fault("hour5", 4);
        fault("hour 5 ", 6);
        fault("hour 123", 7);
        fault("hour  5", 5);
        fault("hour;hour 1;hou", 15);
        fault("hour;hour 1;hour;", 17);
        fault("hour;hour -;vote", 10);
    }

    private static void fault(String text, int due) {
        ClockParliament x = new ClockParliament();
        Check.type(x, text);
        Check.fails("33: \"" + text + "\"", NO_ARGUMENT, () -> x.run());
        Check.same("34: \"" + text + "\"", x.faultPosition(), due);
        Check.same("33: input after \"" + text + "\"", x.account(12), 0);
        Check.same("33: no change by \"" + text + "\"", x.account(13), 0);
    }

    private static void faultPosition() {
        ClockParliament x = new ClockParliament();
        Check.same("34: nothing read", x.faultPosition(), -1);
        Check.type(x, "vots");
        Check.same("34: not read yet", x.faultPosition(), -1);
        Check.fails("34: fault", NO_ARGUMENT, () -> x.run());
        Check.same("34: at 3", x.faultPosition(), 3);
        x.clock(1, 1);
        x.undo();
        Check.same("34: stays", x.faultPosition(), 3);
        Check.type(x, "vote");
        Check.fails("34: refused", UnsupportedOperationException.class, () -> x.run());
        Check.same("34: a refused text has no fault", x.faultPosition(), -1);
        Check.fails("34: empty", NO_ARGUMENT, () -> x.run());
        Check.same("34: at 0", x.faultPosition(), 0);
        Check.run(x, "hour");
        Check.same("34: none", x.faultPosition(), -1);
    }

    private static void reason() {
        ClockParliament x = new ClockParliament();
        Check.fails("35: depth 2", NO_ARGUMENT, () -> x.reason(2, true));
        Check.fails("35: depth -1", NO_ARGUMENT, () -> x.reason(-1, false));
        Check.fails("35: nothing", NO_ELEMENT, () -> x.reason(0, true));
        Check.fails("35: no cause of nothing", NO_ELEMENT, () -> x.reason(1, true));
        Check.thrownBy(() -> x.clock(60, 0));
        Check.same("35: number", x.reason(0, false), 3);
        Check.same("35: detail", x.reason(0, true), 60);
        Check.fails("35: no cause", NO_ELEMENT, () -> x.reason(1, false));
        Check.type(x, "clock 1 1;key 0 3");
        Check.thrownBy(() -> x.run());
        Check.same("35: order", Check.kept(x), "11 1");
        Check.same("35: cause", Check.cause(x), "2 3");
        Check.type(x, "nonsense");
        Check.thrownBy(() -> x.run());
        Check.same("35: a fault is no refusal", Check.kept(x) + " " + Check.cause(x), "11 1 2 3");
        Check.run(x, "clock 1 1");
        x.undo();
        Check.same("35: stays", Check.kept(x) + " " + Check.cause(x), "11 1 2 3");
        Check.thrownBy(() -> x.vote());
        Check.same("35: in place of the one before", Check.kept(x), "9 0");
        Check.fails("35: nor its cause", NO_ELEMENT, () -> x.reason(1, false));
    }

    private static void refusalsOfOrders() {
        String start = "clock 10 3;clock 30 0;bill 0 9 1;key 1 1";
        refusal(start, "clock 60 9", 3, 60);
        refusal(start, "clock 59 4", 3, 4);
        refusal(start, "leave 2", 2, 2);
        refusal(start, "key 3 -", 2, 3);
        refusal(start, "key 1 1", 4, 1);
        refusal(start, "key 2 -", 4, -1);
        refusal(start, "wind 0 0", 5, 0);
        refusal(start, "wind 1 0", 10, 20);
        refusal(start, "wind 1 1", 4, 24);
        refusal(start, "move 0 0", 3, 0);
        refusal(start, "move 9 0", 2, 9);
        refusal(start, "bill 0 60 0", 3, 60);
        refusal(start, "bill 0 00 0", 3, 0);
        refusal(start, "adjourn 0 13", 3, 13);
        refusal(start, "drop 1", 2, 1);
        refusal(start, "hour 0", 3, 0);
        refusal(start, "hour 25", 3, 25);
    }

    private static void refusal(String start, String order, int number, int detail) {
        ClockParliament x = new ClockParliament();
        Check.run(x, start);
        Check.type(x, "hour;undo");
        Check.fails("33: no undo in a text", NO_ARGUMENT, () -> x.run());
        Check.type(x, order);
        Check.fails("33: " + order, UnsupportedOperationException.class, () -> x.run());
        Check.same("35: " + order, Check.kept(x), "11 0");
        Check.same("35: cause of " + order, Check.cause(x), number + " " + detail);
        Check.same("33: none of " + order, x.account(13), 1);
    }

    private static void tell() {
        ClockParliament x = new ClockParliament();
        Check.fails("36: no clock", NO_INDEX, () -> x.tell(0));
        Check.run(x, "clock 0 0;clock 1 1;clock 59 3;key 0 2;key 2 2");
        Check.same("36: as in the document", Check.clock(x, 2), "2:59~24<3k0k2");
        Check.same("36: length", x.tell(2), 13);
        Check.same("36: without keys", Check.clock(x, 0), "0:0~24<0");
        Check.fails("36: clock -1", NO_INDEX, () -> x.tell(-1));
        Check.fails("36: clock 3", NO_INDEX, () -> x.tell(3));
        Check.same("36: the line stays", Check.line(x, 8), "0:0~24<0");
        x.key(1, 2);
        Check.same("36: all keys", Check.clock(x, 2), "2:59~24<3k0k1k2");
        x.hour(24);
        Check.same("36: silent", Check.clock(x, 1), "1:24~0<1");
    }

    private static void tellBill() {
        ClockParliament x = new ClockParliament();
        Check.fails("37: no bill", NO_INDEX, () -> x.tellBill(0));
        Check.run(x, "clock 0 0;bill 0 30 4;bill 0 0 9;adjourn 0 2");
        Check.same("37: as in the document", Check.bill(x, 0), "0@30+4h2");
        Check.same("37: on the table", Check.bill(x, 1), "1@0+9");
        Check.same("37: length", x.tellBill(1), 5);
        Check.fails("37: bill 2", NO_INDEX, () -> x.tellBill(2));
        Check.fails("37: bill -1", NO_INDEX, () -> x.tellBill(-1));
    }

    private static void tellRow() {
        ClockParliament x = new ClockParliament();
        Check.run(x, "clock 0 0;bill 0 30 4;bill 0 0 9;bill 0 1 1");
        Check.same("38: length", x.tellRow(), 5);
        Check.same("38: row", Check.row(x), "0 1 2");
        x.adjourn(1, 1);
        Check.same("38: row of two", Check.row(x), "0 2");
        Check.run(x, "hour;adjourn 0 1;adjourn 2 1");
        Check.same("38: row of one", Check.row(x), "1");
        x.adjourn(1, 1);
        Check.same("38: empty", x.tellRow(), 0);
        Check.fails("38: the line is empty", NO_INDEX, () -> x.character(0));
    }

    private static void character() {
        ClockParliament x = new ClockParliament();
        Check.fails("39: empty at first", NO_INDEX, () -> x.character(0));
        x.clock(42, 1);
        x.tell(0);
        Check.same("39: first", x.character(0), '0');
        Check.same("39: last", x.character(8), '1');
        Check.fails("39: behind", NO_INDEX, () -> x.character(9));
        Check.fails("39: -1", NO_INDEX, () -> x.character(-1));
        x.undo();
        Check.same("39: the line stays by undo", Check.line(x, 9), "0:42~24<1");
    }
}
