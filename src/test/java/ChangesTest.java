/** Promises 1 to 11: a new object, and the changes. */
final class ChangesTest {
    private ChangesTest() {
    }

    static void all() {
        newObject();
        clock();
        leave();
        leaveRenumbers();
        key();
        wind();
        windAgreement();
        move();
        bill();
        adjourn();
        drop();
        vote();
        voteDetails();
        voteWithoutVoters();
        hour();
        hourBringsBack();
    }

    private static void newObject() {
        ClockParliament x = new ClockParliament();
        for (int what = 0; what <= 13; what++) {
            Check.same("1: account " + what, x.account(what), 0);
        }
        for (int key = 0; key < 3; key++) {
            Check.same("1: keeper " + key, x.keeper(key), -1);
        }
        Check.same("1: fault", x.faultPosition(), -1);
        Check.fails("1: reason", java.util.NoSuchElementException.class, () -> x.reason(0, false));
        Check.fails("1: line", IndexOutOfBoundsException.class, () -> x.character(0));
        Check.fails("1: row", java.util.NoSuchElementException.class, () -> x.row(0));
    }

    private static void clock() {
        ClockParliament x = new ClockParliament();
        Check.refused("2: second -1", x, 3, -1, () -> x.clock(-1, 4));
        Check.refused("2: second 60", x, 3, 60, () -> x.clock(60, 0));
        Check.refused("2: leaning -1", x, 3, -1, () -> x.clock(0, -1));
        Check.refused("2: leaning 4", x, 3, 4, () -> x.clock(59, 4));
        Check.refused("2: least second", x, 3, Integer.MIN_VALUE, () -> x.clock(Integer.MIN_VALUE, 0));
        Check.same("2: nothing came", x.account(0), 0);
        for (int i = 0; i < 8; i++) {
            Check.same("2: number", x.clock(i == 7 ? 59 : i, i % 4), i);
        }
        Check.same("2: comes wound", Check.clock(x, 7), "7:59~24<3");
        Check.refused("2: 8 clocks", x, 1, 8, () -> x.clock(0, 0));
        Check.refused("2: range before 8 clocks", x, 3, 77, () -> x.clock(77, 0));
        Check.same("2: 8 changes", x.account(13), 8);
    }

    private static void leave() {
        ClockParliament x = new ClockParliament();
        Check.refused("3: no clock", x, 2, 0, () -> x.leave(0));
        x.clock(1, 0);
        x.clock(2, 0);
        Check.refused("3: no clock 2", x, 2, 2, () -> x.leave(2));
        Check.refused("3: no clock -1", x, 2, -1, () -> x.leave(-1));
        Check.same("3: left", x.leave(0), 1);
        Check.same("3: later ones 1 less", x.clockOf(0, 0), 2);
        Check.same("3: left too", x.leave(0), 0);
    }

    private static void leaveRenumbers() {
        ClockParliament x = new ClockParliament();
        for (int i = 0; i < 4; i++) {
            x.clock(10 * i, i);
            x.bill(i, 30, 1);
        }
        x.key(0, 1);
        x.key(1, 2);
        x.key(2, 0);
        x.move(3, 25);
        Check.same("3: one left", x.leave(1), 3);
        Check.same("3: its key", x.keeper(0), -1);
        Check.same("3: a later keeper", x.keeper(1), 1);
        Check.same("3: an earlier keeper", x.keeper(2), 0);
        Check.same("3: its bill stays", x.account(2), 4);
        Check.same("3: bill of nobody", x.billOf(1, 0), -1);
        Check.same("3: bill of an earlier", x.billOf(0, 0), 0);
        Check.same("3: bill of a later", x.billOf(3, 0), 2);
        Check.same("3: the last one moved up", Check.clock(x, 2), "2:55~21<3");
        Check.same("3: votes moved up", x.clockOf(2, 5), 0);
    }

    private static void key() {
        ClockParliament x = new ClockParliament();
        x.clock(1, 0);
        x.clock(2, 0);
        Check.refused("4: key 3", x, 2, 3, () -> x.key(3, 9));
        Check.refused("4: key -1", x, 2, -1, () -> x.key(-1, 0));
        Check.refused("4: clock 2", x, 2, 2, () -> x.key(0, 2));
        Check.refused("4: clock -2", x, 2, -2, () -> x.key(0, -2));
        Check.refused("4: nobody already", x, 4, -1, () -> x.key(0, -1));
        Check.same("4: given", x.key(0, 1), -1);
        Check.refused("4: has it already", x, 4, 1, () -> x.key(0, 1));
        Check.same("4: passed on", x.key(0, 0), 1);
        Check.same("4: second key", x.key(2, 0), -1);
        Check.same("4: taken back", x.key(0, -1), 0);
        Check.same("4: other key stays", x.keeper(2), 0);
    }

    private static void wind() {
        ClockParliament x = new ClockParliament();
        Check.refused("5: key 3", x, 2, 3, () -> x.wind(3, 5));
        Check.refused("5: key -1", x, 2, -1, () -> x.wind(-1, 0));
        Check.refused("5: no clock", x, 2, 0, () -> x.wind(0, 0));
        x.clock(10, 0);
        x.clock(15, 0);
        Check.refused("5: clock -1", x, 2, -1, () -> x.wind(0, -1));
        Check.refused("5: nobody", x, 5, 2, () -> x.wind(2, 0));
        x.key(2, 0);
        Check.refused("5: wound already", x, 4, 24, () -> x.wind(2, 0));
        x.hour(5);
        Check.same("5: itself", x.wind(2, 0), 19);
        Check.same("5: wound", x.clockOf(0, 1), 24);
        Check.same("5: another, 5 apart", x.wind(2, 1), 19);
        Check.same("5: windings", x.account(11), 2);
    }

    private static void windAgreement() {
        ClockParliament x = new ClockParliament();
        x.clock(57, 0);
        x.clock(3, 0);
        x.clock(2, 0);
        x.key(1, 0);
        Check.refused("5: 6 apart, before wound", x, 10, 6, () -> x.wind(1, 1));
        x.hour(24);
        Check.same("5: all silent", x.account(1), 3);
        Check.same("5: a silent one winds, over 59", x.wind(1, 2), 0);
        Check.refused("5: still 6 apart", x, 10, 6, () -> x.wind(1, 1));
        Check.same("5: a silent one winds itself", x.wind(1, 0), 0);
    }

    private static void move() {
        ClockParliament x = new ClockParliament();
        Check.refused("6: no clock", x, 2, 0, () -> x.move(0, 0));
        x.clock(55, 0);
        Check.refused("6: clock -1", x, 2, -1, () -> x.move(-1, 5));
        Check.refused("6: 0", x, 3, 0, () -> x.move(0, 0));
        Check.refused("6: 60", x, 3, 60, () -> x.move(0, 60));
        Check.refused("6: below", x, 3, -7, () -> x.move(0, -7));
        Check.same("6: behind 59 comes 0", x.move(0, 5), 0);
        Check.same("6: takes 1", x.clockOf(0, 1), 23);
        Check.same("6: 9", x.move(0, 9), 9);
        Check.same("6: takes 1 for 9", x.clockOf(0, 1), 22);
        Check.same("6: 10", x.move(0, 10), 19);
        Check.same("6: takes 2 for 10", x.clockOf(0, 1), 20);
        Check.same("6: 59", x.move(0, 59), 18);
        Check.same("6: takes 6 for 59", x.clockOf(0, 1), 14);
        x.move(0, 59);
        x.move(0, 59);
        Check.refused("6: too weak", x, 6, 2, () -> x.move(0, 20));
        Check.same("6: just enough", x.move(0, 19), 35);
        Check.refused("6: silent", x, 7, 35, () -> x.move(0, 59));
        Check.refused("6: range before silent", x, 3, 60, () -> x.move(0, 60));
    }

    private static void bill() {
        ClockParliament x = new ClockParliament();
        Check.refused("7: no clock", x, 2, 0, () -> x.bill(0, 60, 0));
        x.clock(0, 0);
        x.clock(7, 0);
        Check.refused("7: second 60", x, 3, 60, () -> x.bill(0, 60, 0));
        Check.refused("7: second -1", x, 3, -1, () -> x.bill(0, -1, 1));
        Check.refused("7: need 0", x, 3, 0, () -> x.bill(0, 59, 0));
        Check.refused("7: need 10", x, 3, 10, () -> x.bill(0, 0, 10));
        for (int i = 0; i < 10; i++) {
            Check.same("7: number", x.bill(0, i == 9 ? 59 : i, i == 9 ? 9 : 1), i);
        }
        Check.same("7: at the end", Check.row(x), "0 1 2 3 4 5 6 7 8 9");
        Check.same("7: as told", Check.bill(x, 9), "9@59+9");
        Check.refused("7: 10 bills", x, 1, 10, () -> x.bill(0, 0, 1));
        x.hour(24);
        Check.refused("7: silent before 10 bills", x, 7, 30, () -> x.bill(1, 0, 1));
        Check.refused("7: range before silent", x, 3, 99, () -> x.bill(1, 99, 1));
    }

    private static void adjourn() {
        ClockParliament x = new ClockParliament();
        Check.refused("8: no bill", x, 2, 0, () -> x.adjourn(0, 0));
        x.clock(0, 0);
        x.bill(0, 1, 1);
        x.bill(0, 2, 1);
        x.bill(0, 3, 1);
        Check.refused("8: bill -1", x, 2, -1, () -> x.adjourn(-1, 1));
        Check.refused("8: 0 hours", x, 3, 0, () -> x.adjourn(1, 0));
        Check.refused("8: 13 hours", x, 3, 13, () -> x.adjourn(1, 13));
        Check.same("8: one of the middle", x.adjourn(1, 12), 1);
        Check.same("8: out of the row", Check.row(x), "0 2");
        x.hour(2);
        Check.refused("8: adjourned", x, 8, 10, () -> x.adjourn(1, 3));
        Check.refused("8: range before adjourned", x, 3, 13, () -> x.adjourn(1, 13));
        Check.same("8: another", x.adjourn(0, 1), 2);
        Check.same("8: once", x.billOf(0, 5), 1);
        x.hour(1);
        Check.same("8: again", x.adjourn(0, 4), 2);
        Check.same("8: twice", x.billOf(0, 5), 2);
    }

    private static void drop() {
        ClockParliament x = new ClockParliament();
        Check.refused("9: no bill", x, 2, 0, () -> x.drop(0));
        x.clock(0, 0);
        for (int i = 0; i < 5; i++) {
            x.bill(0, 10 + i, 1 + i);
        }
        x.adjourn(1, 3);
        x.adjourn(3, 2);
        Check.refused("9: bill 5", x, 2, 5, () -> x.drop(5));
        Check.refused("9: bill -1", x, 2, -1, () -> x.drop(-1));
        Check.same("9: of the row", x.drop(0), 4);
        Check.same("9: the row", Check.row(x), "1 3");
        Check.same("9: the adjourned one", Check.bill(x, 0), "0@11+2h3");
        Check.same("9: adjourned", x.drop(0), 3);
        Check.same("9: the row then", Check.row(x), "0 2");
        Check.same("9: the other", Check.bill(x, 1), "1@13+4h2");
        Check.same("9: how often", x.billOf(1, 5), 1);
        Check.same("9: no vote", x.account(6), 0);
    }

    private static void vote() {
        ClockParliament x = new ClockParliament();
        Check.refused("10: empty", x, 9, 0, () -> x.vote());
        x.clock(0, 3);
        x.clock(20, 2);
        x.clock(40, 1);
        x.clock(21, 0);
        x.bill(0, 0, 2);
        x.bill(1, 0, 5);
        x.bill(2, 0, 4);
        x.adjourn(1, 9);
        Check.same("10: 20 apart both ways", x.vote(), 3 + 1 - 1);
        Check.same("10: done with", x.account(2), 2);
        Check.same("10: carried", x.account(7), 1);
        Check.same("10: springs", x.account(5), 4 * 24 - 3);
        Check.same("10: votes of one", x.clockOf(1, 5), 1);
        Check.same("10: votes of one too far", x.clockOf(3, 5), 0);
        Check.same("10: the row", Check.row(x), "1");
        Check.same("10: not enough", x.vote(), 3);
        Check.same("10: not carried", x.account(8), 1);
        Check.same("10: chimes", x.account(9), 18);
        Check.refused("10: one adjourned", x, 9, 1, () -> x.vote());
    }

    private static void voteDetails() {
        ClockParliament x = new ClockParliament();
        x.clock(30, 0);
        x.clock(30, 1);
        x.bill(0, 30, 1);
        Check.same("10: below 0", x.vote(), -4);
        Check.same("10: not carried below 0", x.account(7), 0);
        x.leave(0);
        x.clock(30, 3);
        x.bill(0, 30, 2);
        Check.same("10: just as many", x.vote(), 2);
        Check.same("10: carried by just as many", x.account(7), 1);
        x.bill(0, 30, 1);
        Check.same("10: more than needed", x.vote(), 2);
        Check.same("10: carried by more", x.account(7), 2);
        x.bill(0, 30, 3);
        Check.same("10: one too few", x.vote(), 2);
        Check.same("10: not carried by one too few", x.account(7), 2);
        Check.same("10: all of them", x.account(6), 4);
        Check.same("10: votes go with the clock", x.clockOf(0, 5), 4);
    }

    private static void voteWithoutVoters() {
        ClockParliament x = new ClockParliament();
        x.clock(0, 3);
        x.bill(0, 21, 1);
        x.bill(0, 30, 1);
        Check.same("10: nobody near", x.vote(), 0);
        Check.same("10: adjourned", x.billOf(0, 3), 1);
        Check.same("10: counts as adjourned", x.billOf(0, 5), 1);
        Check.same("10: no vote held", x.account(6), 0);
        Check.same("10: no chimes", x.account(9), 0);
        Check.same("10: no spring taken", x.account(5), 24);
        Check.same("10: the next one", Check.row(x), "1");
        Check.same("10: a change all the same", x.account(13), 4);
        x.hour(24);
        x.clock(35, 3);
        x.move(1, 59);
        x.move(1, 59);
        x.move(1, 59);
        x.move(1, 59);
        Check.same("10: only silent ones", x.vote(), 0);
        Check.same("10: no vote of silent ones", x.account(6), 0);
    }

    private static void hour() {
        ClockParliament x = new ClockParliament();
        Check.refused("11: 0", x, 3, 0, () -> x.hour(0));
        Check.refused("11: 25", x, 3, 25, () -> x.hour(25));
        Check.refused("11: far below", x, 3, Integer.MIN_VALUE, () -> x.hour(Integer.MIN_VALUE));
        x.clock(58, 0);
        Check.same("11: one", x.hour(1), 0);
        Check.same("11: goes on", Check.clock(x, 0), "0:59~23<0");
        x.hour(1);
        Check.same("11: behind 59 comes 0", Check.clock(x, 0), "0:0~22<0");
        x.hour(21);
        Check.same("11: the last of the spring", Check.clock(x, 0), "0:21~1<0");
        x.hour(1);
        Check.same("11: silent, stands still", Check.clock(x, 0), "0:21~0<0");
        x.hour(24);
        Check.same("11: stays so", Check.clock(x, 0), "0:21~0<0");
        Check.same("11: hours", x.account(4), 48);
    }

    private static void hourBringsBack() {
        ClockParliament x = new ClockParliament();
        x.clock(0, 0);
        for (int i = 0; i < 7; i++) {
            x.bill(0, i, 1);
        }
        x.adjourn(5, 2);
        x.adjourn(2, 2);
        x.adjourn(4, 2);
        x.adjourn(0, 1);
        x.adjourn(6, 3);
        Check.same("11: one back", x.hour(1), 1);
        Check.same("11: at the beginning", Check.row(x), "0 1 3");
        Check.same("11: three back", x.hour(1), 3);
        Check.same("11: in the order of their numbers", Check.row(x), "2 4 5 0 1 3");
        Check.same("11: one hour yet", x.billOf(6, 3), 1);
        Check.same("11: the last back", x.hour(24), 1);
        Check.same("11: ahead of all", Check.row(x), "6 2 4 5 0 1 3");
        Check.same("11: comebacks", x.account(10), 5);
        x.adjourn(1, 12);
        x.adjourn(3, 1);
        Check.same("11: several hours", x.hour(12), 2);
        Check.same("11: the later one ahead", Check.row(x), "1 3 6 2 4 5 0");
    }
}
