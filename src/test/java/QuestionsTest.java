import java.util.NoSuchElementException;
import java.util.function.IntUnaryOperator;

/** Promises 12 to 31: what is asked of clocks, bills, the row, hours to come and votes. */
final class QuestionsTest {
    private static final Class<IndexOutOfBoundsException> NO_INDEX = IndexOutOfBoundsException.class;
    private static final Class<IllegalArgumentException> NO_ARGUMENT = IllegalArgumentException.class;
    private static final Class<NoSuchElementException> NO_ELEMENT = NoSuchElementException.class;

    private QuestionsTest() {
    }

    static void all() {
        clockOf();
        billOf();
        keeper();
        agreement();
        row();
        rowLater();
        next();
        silentIn();
        secondIn();
        voters();
        majority();
        wouldCarry();
        weakest();
        circle();
        ranked();
        isTold();
        nothingIsKept();
    }

    private static void clockOf() {
        ClockParliament x = new ClockParliament();
        Check.fails("12: no clock, first of all", NO_INDEX, () -> x.clockOf(0, 7));
        x.clock(57, 2);
        x.clock(2, 1);
        x.clock(3, 3);
        x.bill(0, 57, 1);
        x.bill(0, 57, 1);
        x.bill(0, 57, 1);
        x.bill(1, 30, 1);
        x.key(0, 0);
        x.key(2, 0);
        x.vote();
        x.vote();
        Check.same("12: second", x.clockOf(0, 0), 57);
        Check.same("12: spring", x.clockOf(0, 1), 22);
        Check.same("12: leaning", x.clockOf(0, 2), 2);
        Check.same("12: keys", x.clockOf(0, 3), 2);
        Check.same("12: no keys", x.clockOf(1, 3), 0);
        Check.same("12: bills that are there", x.clockOf(0, 4), 1);
        Check.same("12: bills of another", x.clockOf(1, 4), 1);
        Check.same("12: votes", x.clockOf(0, 5), 2);
        Check.same("12: agreeing", x.clockOf(0, 6), 2);
        Check.same("12: agreeing with two", x.clockOf(1, 6), 5);
        Check.same("12: agreeing with one", x.clockOf(2, 6), 2);
        Check.fails("12: what 7", NO_ARGUMENT, () -> x.clockOf(0, 7));
        Check.fails("12: what -1", NO_ARGUMENT, () -> x.clockOf(2, -1));
        Check.fails("12: clock 3", NO_INDEX, () -> x.clockOf(3, 0));
        Check.fails("12: clock -1", NO_INDEX, () -> x.clockOf(-1, 0));
    }

    private static void billOf() {
        ClockParliament x = new ClockParliament();
        Check.fails("13: no bill, first of all", NO_INDEX, () -> x.billOf(0, 6));
        x.clock(0, 0);
        x.clock(1, 0);
        x.bill(0, 40, 9);
        x.bill(1, 41, 8);
        x.bill(1, 42, 7);
        x.adjourn(0, 7);
        x.hour(2);
        int[] due = {0, 40, 9, 5, -1, 1};
        int[] dueOnTable = {1, 42, 7, 0, 1, 0};
        for (int what = 0; what < 6; what++) {
            Check.same("13: adjourned, " + what, x.billOf(0, what), due[what]);
            Check.same("13: on the table, " + what, x.billOf(2, what), dueOnTable[what]);
        }
        x.leave(0);
        Check.same("13: of nobody", x.billOf(0, 0), -1);
        Check.fails("13: what 6", NO_ARGUMENT, () -> x.billOf(0, 6));
        Check.fails("13: what -1", NO_ARGUMENT, () -> x.billOf(2, -1));
        Check.fails("13: bill 3", NO_INDEX, () -> x.billOf(3, 0));
        Check.fails("13: bill -1", NO_INDEX, () -> x.billOf(-1, 0));
    }

    private static void keeper() {
        ClockParliament x = new ClockParliament();
        x.clock(0, 0);
        x.clock(0, 0);
        x.key(1, 1);
        Check.same("14: nobody", x.keeper(0), -1);
        Check.same("14: a clock", x.keeper(1), 1);
        Check.fails("14: key 3", NO_INDEX, () -> x.keeper(3));
        Check.fails("14: key -1", NO_INDEX, () -> x.keeper(-1));
    }

    private static void agreement() {
        ClockParliament x = new ClockParliament();
        x.clock(59, 0);
        x.clock(0, 0);
        x.clock(4, 0);
        x.clock(5, 0);
        x.clock(29, 0);
        Check.same("16: 59 and 0", x.apart(0, 1), 1);
        Check.same("16: 0 and 59", x.apart(1, 0), 1);
        Check.same("16: itself", x.apart(3, 3), 0);
        Check.same("16: 30", x.apart(0, 4), 30);
        Check.same("16: 29", x.apart(1, 4), 29);
        Check.same("15: 5 apart", x.doAgree(0, 2), true);
        Check.same("15: 6 apart", x.doAgree(3, 0), false);
        Check.same("15: itself", x.doAgree(4, 4), true);
        Check.fails("15: one", NO_INDEX, () -> x.doAgree(5, 0));
        Check.fails("15: other", NO_INDEX, () -> x.doAgree(0, 5));
        Check.fails("15: below", NO_INDEX, () -> x.doAgree(0, -1));
        Check.fails("16: one", NO_INDEX, () -> x.apart(-1, 0));
        Check.fails("16: other", NO_INDEX, () -> x.apart(0, 5));
        x.hour(24);
        Check.same("15: silent ones", x.doAgree(0, 2), true);
    }

    private static void row() {
        ClockParliament x = new ClockParliament();
        Check.fails("17: empty", NO_ELEMENT, () -> x.row(0));
        x.clock(0, 0);
        x.bill(0, 0, 1);
        x.bill(0, 0, 1);
        x.adjourn(0, 1);
        x.hour(1);
        x.bill(0, 0, 1);
        x.adjourn(0, 2);
        Check.same("17: first", x.row(0), 1);
        Check.same("17: second", x.row(1), 2);
        Check.fails("17: third", NO_ELEMENT, () -> x.row(2));
        Check.fails("17: -1", NO_ELEMENT, () -> x.row(-1));
    }

    private static void rowLater() {
        ClockParliament x = new ClockParliament();
        x.clock(0, 0);
        for (int i = 0; i < 6; i++) {
            x.bill(0, 0, 1);
        }
        x.adjourn(4, 3);
        x.adjourn(1, 3);
        x.adjourn(5, 12);
        x.adjourn(0, 1);
        String[] due = {"2 3", "0 2 3", "0 2 3", "1 4 0 2 3", "1 4 0 2 3"};
        for (int hours = 0; hours < due.length; hours++) {
            Check.same("18: in " + hours, rowIn(x, hours), due[hours]);
            Check.same("19: in " + hours, rowAgain(x, hours), due[hours]);
        }
        Check.same("18: in 11", rowIn(x, 11), "1 4 0 2 3");
        Check.same("18: in 12", rowIn(x, 12), "5 1 4 0 2 3");
        Check.same("18: in 24", rowIn(x, 24), "5 1 4 0 2 3");
        Check.same("19: in 24", rowAgain(x, 24), "5 1 4 0 2 3");
        Check.same("18: nothing is different", Check.row(x), "2 3");
        Check.fails("18: hours 25, first of all", NO_ARGUMENT, () -> x.rowIn(25, 99));
        Check.fails("18: hours -1", NO_ARGUMENT, () -> x.rowIn(-1, 0));
        Check.fails("18: place -1", NO_ELEMENT, () -> x.rowIn(0, -1));
        Check.fails("18: place 6", NO_ELEMENT, () -> x.rowIn(24, 6));
        Check.fails("19: hours 25, first of all", NO_ARGUMENT, () -> x.rowAgain(25, 99));
        Check.fails("19: hours -1", NO_ARGUMENT, () -> x.rowAgain(-1, 0));
        Check.fails("19: place -1", NO_ELEMENT, () -> x.rowAgain(0, -1));
        Check.fails("19: place 6", NO_ELEMENT, () -> x.rowAgain(24, 6));
        Check.fails("19: highest place", NO_ELEMENT, () -> x.rowAgain(24, Integer.MAX_VALUE));
    }

    private static String rowIn(ClockParliament x, int hours) {
        return rowTold(x, place -> x.rowIn(hours, place));
    }

    private static String rowAgain(ClockParliament x, int hours) {
        return rowTold(x, place -> x.rowAgain(hours, place));
    }

    private static String rowTold(ClockParliament x, IntUnaryOperator billAt) {
        StringBuilder told = new StringBuilder();
        for (int place = 0; place < x.account(2); place++) {
            try {
                int bill = billAt.applyAsInt(place);
                told.append(place == 0 ? "" : " ").append(bill);
            } catch (NoSuchElementException e) {
                return told.toString();
            }
        }
        return told.toString();
    }

    private static void next() {
        ClockParliament x = new ClockParliament();
        Check.fails("20: no bill", NO_ELEMENT, () -> x.next());
        x.clock(0, 0);
        x.bill(0, 0, 1);
        x.bill(0, 0, 1);
        x.bill(0, 0, 1);
        Check.fails("20: none adjourned", NO_ELEMENT, () -> x.next());
        x.adjourn(0, 12);
        Check.same("20: 12", x.next(), 12);
        x.adjourn(2, 3);
        x.adjourn(1, 5);
        Check.same("20: the least", x.next(), 3);
        x.hour(2);
        Check.same("20: 1", x.next(), 1);
        x.hour(1);
        Check.same("20: the other's", x.next(), 2);
    }

    private static void silentIn() {
        ClockParliament x = new ClockParliament();
        Check.fails("21: no clock", NO_INDEX, () -> x.silentIn(0));
        x.clock(0, 0);
        x.clock(0, 0);
        Check.same("21: full", x.silentIn(1), 24);
        x.move(0, 59);
        x.hour(1);
        Check.same("21: less", x.silentIn(0), 17);
        x.hour(17);
        Check.same("21: silent", x.silentIn(0), 0);
        Check.fails("21: clock 2", NO_INDEX, () -> x.silentIn(2));
        Check.fails("21: clock -1", NO_INDEX, () -> x.silentIn(-1));
    }

    private static void secondIn() {
        ClockParliament x = new ClockParliament();
        Check.fails("22: no clock, first of all", NO_INDEX, () -> x.secondIn(0, 49));
        x.clock(50, 0);
        Check.same("22: now", x.secondIn(0, 0), 50);
        Check.same("22: behind 59", x.secondIn(0, 10), 0);
        Check.same("22: in 23", x.secondIn(0, 23), 13);
        Check.same("22: does not go on silent", x.secondIn(0, 24), 13);
        Check.same("22: in 48", x.secondIn(0, 48), 13);
        Check.same("22: nothing is different", Check.clock(x, 0), "0:50~24<0");
        Check.fails("22: hours 49", NO_ARGUMENT, () -> x.secondIn(0, 49));
        Check.fails("22: hours -1", NO_ARGUMENT, () -> x.secondIn(0, -1));
        Check.fails("22: clock -1", NO_INDEX, () -> x.secondIn(-1, 0));
    }

    private static void voters() {
        ClockParliament x = new ClockParliament();
        Check.fails("23: no bill", NO_INDEX, () -> x.voters(0));
        x.clock(20, 3);
        x.clock(21, 3);
        x.clock(40, 0);
        x.clock(39, 2);
        x.clock(0, 0);
        x.bill(0, 0, 5);
        Check.same("23: by 20 at most", x.voters(0), 1 + 4 + 16);
        Check.same("24: majority", x.majority(0), 3 - 3 - 3);
        x.adjourn(0, 12);
        Check.same("23: adjourned", x.voters(0), 21);
        for (int i = 0; i < 4; i++) {
            x.move(4, 59);
        }
        Check.same("23: without a silent one", x.voters(0), 5);
        Check.fails("23: bill 1", NO_INDEX, () -> x.voters(1));
        Check.fails("23: bill -1", NO_INDEX, () -> x.voters(-1));
    }

    private static void majority() {
        ClockParliament x = new ClockParliament();
        Check.fails("24: no bill", NO_INDEX, () -> x.majority(0));
        Check.fails("25: no bill", NO_INDEX, () -> x.majorityAgain(0));
        int[] leanings = {3, 2, 2, 1, 3, 0};
        int[] due = {3, 4, 5, 4, 7, 4};
        x.clock(30, 3);
        x.bill(0, 30, 9);
        for (int i = 0; i < leanings.length; i++) {
            if (i > 0) {
                x.clock(30, leanings[i]);
            }
            Check.same("24: with " + i, x.majority(0), due[i]);
            Check.same("25: with " + i, x.majorityAgain(0), due[i]);
        }
        x.bill(0, 0, 9);
        x.adjourn(0, 2);
        Check.same("24: adjourned", x.majority(0), 4);
        Check.same("25: adjourned", x.majorityAgain(0), 4);
        Check.same("24: nobody", x.majority(1), 0);
        Check.same("25: nobody", x.majorityAgain(1), 0);
        Check.fails("24: bill -1", NO_INDEX, () -> x.majority(-1));
        Check.fails("24: bill 2", NO_INDEX, () -> x.majority(2));
        Check.fails("25: bill -1", NO_INDEX, () -> x.majorityAgain(-1));
        Check.fails("25: bill 2", NO_INDEX, () -> x.majorityAgain(2));
    }

    private static void wouldCarry() {
        ClockParliament x = new ClockParliament();
        Check.same("27: no bills", x.carried(), 0);
        Check.fails("26: no bill", NO_INDEX, () -> x.wouldCarry(0));
        x.clock(30, 3);
        x.bill(0, 30, 2);
        x.bill(0, 30, 3);
        x.bill(0, 30, 4);
        x.bill(0, 59, 1);
        x.bill(0, 10, 3);
        boolean[] due = {true, true, false, false, true};
        for (int bill = 0; bill < due.length; bill++) {
            Check.same("26: bill " + bill, x.wouldCarry(bill), due[bill]);
        }
        Check.same("27: set", x.carried(), 1 + 2 + 16);
        x.adjourn(1, 1);
        Check.same("26: adjourned", x.wouldCarry(1), true);
        Check.same("27: without the adjourned", x.carried(), 1 + 16);
        Check.fails("26: bill -1", NO_INDEX, () -> x.wouldCarry(-1));
        Check.fails("26: bill 5", NO_INDEX, () -> x.wouldCarry(5));
    }

    private static void weakest() {
        ClockParliament x = new ClockParliament();
        Check.fails("28: none", NO_ELEMENT, () -> x.weakest());
        x.clock(0, 0);
        x.clock(0, 0);
        x.clock(0, 0);
        Check.same("28: all alike", x.weakest(), 0);
        x.move(2, 1);
        Check.same("28: the last", x.weakest(), 2);
        x.move(1, 1);
        Check.same("28: of two the lowest", x.weakest(), 1);
    }

    private static void circle() {
        ClockParliament x = new ClockParliament();
        Check.fails("29: no clock", NO_INDEX, () -> x.circle(0));
        int[] seconds = {20, 0, 10, 5, 55, 15, 26, 40};
        for (int second : seconds) {
            x.clock(second, 0);
        }
        for (int clock = 0; clock < 6; clock++) {
            Check.same("29: of " + clock, x.circle(clock), 63);
        }
        Check.same("29: alone", x.circle(6), 64);
        Check.same("29: alone too", x.circle(7), 128);
        Check.fails("29: clock 8", NO_INDEX, () -> x.circle(8));
        Check.fails("29: clock -1", NO_INDEX, () -> x.circle(-1));
    }

    private static void ranked() {
        ClockParliament x = new ClockParliament();
        Check.fails("30: kind 4, first of all", NO_ARGUMENT, () -> x.ranked(4, 0));
        Check.fails("30: no clock", NO_ELEMENT, () -> x.ranked(0, 0));
        x.clock(10, 2);
        x.clock(30, 1);
        x.clock(50, 3);
        x.clock(10, 2);
        x.bill(0, 40, 1);
        x.vote();
        x.move(3, 30);
        String[] due = {"0 1 2 3", "2 3 1 0", "2 0 3 1", "1 2 0 3"};
        for (int kind = 0; kind < 4; kind++) {
            StringBuilder got = new StringBuilder();
            for (int place = 0; place < 4; place++) {
                got.append(place == 0 ? "" : " ").append(x.ranked(kind, place));
            }
            Check.same("30: kind " + kind, got.toString(), due[kind]);
        }
        Check.fails("30: kind -1", NO_ARGUMENT, () -> x.ranked(-1, 0));
        Check.fails("30: place 4", NO_ELEMENT, () -> x.ranked(3, 4));
        Check.fails("30: place -1", NO_ELEMENT, () -> x.ranked(0, -1));
    }

    private static void isTold() {
        ClockParliament x = new ClockParliament();
        Check.same("31: new", x.isTold(), true);
        x.clock(0, 3);
        x.clock(10, 0);
        for (int i = 0; i < 10; i++) {
            x.bill(i % 2, 3 * i, 1);
        }
        x.adjourn(3, 12);
        x.adjourn(8, 2);
        x.adjourn(1, 2);
        Check.same("31: full", x.isTold(), true);
        x.hour(2);
        x.vote();
        Check.same("31: later", x.isTold(), true);
        Check.same("31: nothing is different", Check.row(x), "7 0 1 3 4 5 6 8");
    }

    private static void nothingIsKept() {
        ClockParliament x = new ClockParliament();
        Check.thrownBy(() -> x.clockOf(0, 0));
        Check.thrownBy(() -> x.row(0));
        Check.thrownBy(() -> x.rowIn(99, 0));
        Check.thrownBy(() -> x.ranked(9, 0));
        Check.fails("a question keeps no reason", NO_ELEMENT, () -> x.reason(0, false));
        Check.same("a question is no change", x.account(13), 0);
    }
}
