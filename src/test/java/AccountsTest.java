/** Promises 40 to 45: accounts, shares, undo, and saving. */
final class AccountsTest {
    private AccountsTest() {
    }

    static void all() {
        account();
        meanSpring();
        carriedShare();
        undo();
        undoOfEachChange();
        save();
        restore();
    }

    private static void account() {
        ClockParliament x = new ClockParliament();
        Check.run(x, "clock 0 3;clock 9 2;clock 30 0;bill 0 5 4;bill 1 5 9");
        Check.run(x, "bill 1 5 1;adjourn 2 1;vote;vote;key 0 1");
        Check.run(x, "hour 3;wind 0 1;hour 20;hour 2;wind 0 1");
        Check.run(x, "bill 1 30 1;bill 1 59 1;adjourn 1 4");
        x.append('v');
        x.append('o');
        int[] due = {3, 2, 3, 1, 25, 24, 2, 1, 1, 12, 1, 2, 2, 4};
        for (int what = 0; what < due.length; what++) {
            Check.same("40: " + what, x.account(what), due[what]);
        }
        Check.fails("40: 14", IllegalArgumentException.class, () -> x.account(14));
        Check.fails("40: -1", IllegalArgumentException.class, () -> x.account(-1));
    }

    private static void meanSpring() {
        ClockParliament x = new ClockParliament();
        Check.fails("41: none", ArithmeticException.class, () -> x.meanSpring());
        x.clock(0, 0);
        Check.same("41: one", x.meanSpring(), 24.0);
        x.clock(0, 0);
        x.clock(0, 0);
        x.move(1, 1);
        Check.same("41: three", x.meanSpring(), 71.0 / 3.0);
        x.hour(24);
        Check.same("41: silent", x.meanSpring(), 0.0);
    }

    private static void carriedShare() {
        ClockParliament x = new ClockParliament();
        Check.fails("42: none", ArithmeticException.class, () -> x.carriedShare());
        x.clock(0, 3);
        x.bill(0, 30, 1);
        x.vote();
        Check.fails("42: no vote without voters", ArithmeticException.class, () -> x.carriedShare());
        x.bill(0, 0, 3);
        x.bill(0, 0, 4);
        x.bill(0, 0, 5);
        x.vote();
        Check.same("42: all", x.carriedShare(), 1.0f);
        x.vote();
        Check.same("42: half", x.carriedShare(), 0.5f);
        x.vote();
        Check.same("42: a third", x.carriedShare(), 1.0f / 3.0f);
    }

    private static void undo() {
        ClockParliament x = new ClockParliament();
        Check.fails("43: nothing", IllegalStateException.class, () -> x.undo());
        for (int i = 1; i <= 11; i++) {
            x.hour(i);
            Check.same("43: can be undone", x.account(13), Math.min(i, 8));
        }
        int hours = 66;
        for (int i = 11; i > 3; i--) {
            Check.same("43: left", x.undo(), i - 4);
            hours -= i;
            Check.same("43: the latest first", x.account(4), hours);
        }
        Check.fails("43: only 8", IllegalStateException.class, () -> x.undo());
        x.hour(24);
        Check.same("43: again", x.undo(), 0);
        Check.same("43: as before", x.account(4), 6);
        x.clock(1, 1);
        Check.thrownBy(() -> x.clock(60, 0));
        Check.thrownBy(() -> x.drop(0));
        Check.same("43: a refused one is no change", x.undo(), 0);
        Check.same("43: the clock is gone", x.account(0), 0);
    }

    private static void undoOfEachChange() {
        ClockParliament x = new ClockParliament();
        Check.run(x, "clock 0 3;clock 9 2;clock 58 0;bill 0 5 4");
        Check.run(x, "bill 1 5 9;bill 2 7 1;adjourn 2 1;key 0 1;hour");
        String before = told(x);
        Runnable[] changes = {
            () -> x.clock(5, 1), () -> x.leave(1), () -> x.key(0, 2), () -> x.wind(0, 1), () -> x.move(2, 30),
            () -> x.bill(2, 40, 1), () -> x.adjourn(1, 5), () -> x.drop(0), () -> x.vote(), () -> x.hour(24),
            () -> Check.run(x, "vote;leave 0;hour 2")
        };
        for (int i = 0; i < changes.length; i++) {
            changes[i].run();
            Check.isSo("43: something is different by " + i, !told(x).equals(before));
            Check.same("43: 2 left after " + i, x.undo(), 2);
            Check.same("43: all goes back of " + i, told(x), before);
        }
        Check.type(x, "vo");
        x.clock(1, 1);
        x.undo();
        Check.same("43: the input stays", x.append('t'), 3);
    }

    /** All that is told of a parliament. */
    private static String told(ClockParliament x) {
        StringBuilder told = new StringBuilder(Check.row(x));
        for (int what = 0; what <= 12; what++) {
            told.append(' ').append(x.account(what));
        }
        for (int clock = 0; clock < x.account(0); clock++) {
            told.append(' ').append(Check.clock(x, clock)).append('v').append(x.clockOf(clock, 5));
        }
        for (int bill = 0; bill < x.account(2); bill++) {
            told.append(' ').append(Check.bill(x, bill));
            told.append('m').append(x.billOf(bill, 0)).append('a').append(x.billOf(bill, 5));
        }
        return told.toString();
    }

    private static void save() {
        ClockParliament x = new ClockParliament();
        Check.same("44: none", x.save(), 0);
        x.clock(0, 0);
        x.clock(1, 1);
        Check.same("44: two", x.save(), 2);
        Check.same("44: no change", x.account(13), 2);
        x.leave(0);
        Check.same("44: undo goes on", x.undo(), 2);
        Check.same("44: in place of the one before", x.restore(), 2);
    }

    private static void restore() {
        ClockParliament x = new ClockParliament();
        Check.fails("45: nothing", IllegalStateException.class, () -> x.restore());
        Check.run(x, "clock 0 3;clock 9 2;bill 0 5 4;bill 1 5 9;adjourn 0 2");
        Check.run(x, "key 0 1;hour;vote");
        String before = told(x);
        x.save();
        Check.run(x, "leave 0;hour 20;vote;clock 5 1");
        x.undo();
        Check.same("45: undo leaves what was saved", x.account(13), 2);
        Check.run(x, "leave 0;hour 20;vote;clock 5 1;clock 5 1");
        Check.thrownBy(() -> x.hour(0));
        Check.type(x, "ho");
        x.tell(0);
        Check.same("45: clocks", x.restore(), 2);
        Check.same("45: the line stays", x.character(1), ':');
        Check.same("45: the reason stays", Check.kept(x), "3 0");
        Check.same("45: the input stays", x.account(12), 2);
        Check.thrownBy(() -> x.run());
        Check.same("45: all is back", told(x), before);
        Check.fails("45: no undo", IllegalStateException.class, () -> x.undo());
        x.leave(0);
        Check.same("45: stays saved", x.restore(), 2);
        Check.same("45: all is back again", told(x), before);
        x.leave(0);
        Check.same("45: changes count anew", x.account(13), 1);
    }
}
