/** Counts what is as due and what is not, and helps with calls that throw and with texts. */
final class Check {
    static int passed = 0;
    static int failed = 0;
    // What the running test is about, for the message of a failure.
    static String about = "";

    private Check() {
    }

    static void same(String what, Object got, Object want) {
        if (got.equals(want)) {
            passed++;
        } else {
            failed++;
            System.out.println("FAILED " + about + what + ": answered " + got + ", due is " + want);
        }
    }

    static void isSo(String what, boolean got) {
        same(what, got, true);
    }

    static void fails(String what, Class<? extends RuntimeException> due, Runnable call) {
        same(what, thrownBy(call), due.getSimpleName());
    }

    /** A refusal throws, and its reason and detail are kept. */
    static void refused(String what, ClockParliament x, int reason, int detail, Runnable call) {
        fails(what, UnsupportedOperationException.class, call);
        same(what + ": reason", kept(x), reason + " " + detail);
    }

    static String thrownBy(Runnable call) {
        try {
            call.run();
            return "nothing";
        } catch (RuntimeException e) {
            return e.getClass().getSimpleName();
        }
    }

    static String kept(ClockParliament x) {
        return x.reason(0, false) + " " + x.reason(0, true);
    }

    static String cause(ClockParliament x) {
        return x.reason(1, false) + " " + x.reason(1, true);
    }

    static void type(ClockParliament x, String text) {
        for (int i = 0; i < text.length(); i++) {
            x.append(text.charAt(i));
        }
    }

    static int run(ClockParliament x, String text) {
        type(x, text);
        return x.run();
    }

    /** The line, whose length has just been told. */
    static String line(ClockParliament x, int length) {
        StringBuilder line = new StringBuilder();
        for (int i = 0; i < length; i++) {
            line.append(x.character(i));
        }
        fails("behind the line", IndexOutOfBoundsException.class, () -> x.character(length));
        return line.toString();
    }

    static String row(ClockParliament x) {
        return line(x, x.tellRow());
    }

    static String clock(ClockParliament x, int clock) {
        return line(x, x.tell(clock));
    }

    static String bill(ClockParliament x, int bill) {
        return line(x, x.tellBill(bill));
    }
}
