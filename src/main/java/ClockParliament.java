import java.util.NoSuchElementException;

/**
 * A parliament of clocks without hands, whose clocks are wound, moved and run down, and whose bills
 * are tabled, adjourned and voted on by chimes. All rows are made once, in the constructor.
 */
public final class ClockParliament {
    private static final int MOST_CLOCKS = 8;
    private static final int MOST_BILLS = 10;
    private static final int KEYS = 3;
    private static final int NOBODY = -1;
    private static final int NOWHERE = -1;
    private static final int NO_FAULT = -1;

    private static final int SECONDS = 60;
    private static final int FULL_SPRING = 24;
    private static final int TOP_LEANING = 3;
    private static final int CHIMES_OF_A_VOTE = 3;
    private static final int SECONDS_OF_AGREEING = 5;
    private static final int SECONDS_OF_VOTING = 20;
    private static final int SECONDS_FOR_A_SPRING = 10;
    private static final int TOP_NEED = 9;
    private static final int LONGEST_ADJOURNING = 12;
    private static final int MOST_HOURS = 24;
    private static final int LATEST_SECOND_TOLD = 48;
    private static final int MOST_UNDONE = 8;
    private static final int LONGEST_INPUT = 60;
    private static final int LAST_RANKING = 3;

    // The reasons of refusals, by the numbers that the document gives them.
    private static final int FULL = 1;
    private static final int UNKNOWN = 2;
    private static final int OUT_OF_RANGE = 3;
    private static final int ALREADY_SO = 4;
    private static final int KEY_WITH_NOBODY = 5;
    private static final int TOO_WEAK = 6;
    private static final int SILENT = 7;
    private static final int ADJOURNED = 8;
    private static final int EMPTY_ROW = 9;
    private static final int DISAGREEING = 10;
    private static final int ORDER_REFUSED = 11;

    private final House house = new House();
    // For hours that are only thought of, and for the way back out of a run that is refused.
    private final House spare = new House();
    private final House saved = new House();
    private boolean isSaved = false;
    private final History history = new History();
    private final OrderText input = new OrderText();
    private final Order order = new Order();
    private final StringBuilder line = new StringBuilder();
    private final Refusal found = new Refusal();
    private final Refusal kept = new Refusal();
    private final Refusal cause = new Refusal();
    private int latestFault = NO_FAULT;

    public ClockParliament() {
    }

    // Changes

    public int clock(int second, int leaning) throws UnsupportedOperationException {
        return change(Kind.CLOCK, second, leaning, 0);
    }

    public int leave(int clock) throws UnsupportedOperationException {
        return change(Kind.LEAVE, clock, 0, 0);
    }

    public int key(int key, int clock) throws UnsupportedOperationException {
        return change(Kind.KEY, key, clock, 0);
    }

    public int wind(int key, int clock) throws UnsupportedOperationException {
        return change(Kind.WIND, key, clock, 0);
    }

    public int move(int clock, int seconds) throws UnsupportedOperationException {
        return change(Kind.MOVE, clock, seconds, 0);
    }

    public int bill(int clock, int second, int need) throws UnsupportedOperationException {
        return change(Kind.BILL, clock, second, need);
    }

    public int adjourn(int bill, int hours) throws UnsupportedOperationException {
        return change(Kind.ADJOURN, bill, hours, 0);
    }

    public int drop(int bill) throws UnsupportedOperationException {
        return change(Kind.DROP, bill, 0, 0);
    }

    public int vote() throws UnsupportedOperationException {
        return change(Kind.VOTE, 0, 0, 0);
    }

    public int hour(int hours) throws UnsupportedOperationException {
        return change(Kind.HOUR, hours, 0, 0);
    }

    private int change(Kind kind, int first, int second, int third) {
        order.fill(kind, first, second, third);
        if (house.refuses(order, found)) {
            kept.copyFrom(found);
            cause.clear();
            throw new UnsupportedOperationException("refused");
        }
        history.keep(house);
        return house.carryOut(order);
    }

    // Questions about clocks, bills and keys

    public int clockOf(int clock, int what) throws IndexOutOfBoundsException, IllegalArgumentException {
        checkClock(clock);
        switch (what) {
            case 0:
                return house.clocks.seconds.at(clock);
            case 1:
                return house.clocks.springs.at(clock);
            case 2:
                return house.clocks.leanings.at(clock);
            case 3:
                return house.clocks.keepers.countOf(clock);
            case 4:
                return house.bills.movers.countOf(clock);
            case 5:
                return house.clocks.votes.at(clock);
            case 6:
                return house.clocks.agreeingWith(clock);
            default:
                throw new IllegalArgumentException("what is not 0 to 6");
        }
    }

    public int billOf(int bill, int what) throws IndexOutOfBoundsException, IllegalArgumentException {
        checkBill(bill);
        switch (what) {
            case 0:
                return house.bills.movers.at(bill);
            case 1:
                return house.bills.seconds.at(bill);
            case 2:
                return house.bills.needs.at(bill);
            case 3:
                return house.bills.hours.at(bill);
            case 4:
                return house.bills.row.placeOf(bill);
            case 5:
                return house.bills.adjournings.at(bill);
            default:
                throw new IllegalArgumentException("what is not 0 to 5");
        }
    }

    public int keeper(int key) throws IndexOutOfBoundsException {
        if (!house.clocks.keepers.has(key)) {
            throw new IndexOutOfBoundsException("no such key");
        }
        return house.clocks.keepers.at(key);
    }

    public boolean doAgree(int one, int other) throws IndexOutOfBoundsException {
        checkClock(one);
        checkClock(other);
        return house.clocks.areAgreed(one, other);
    }

    public int apart(int one, int other) throws IndexOutOfBoundsException {
        checkClock(one);
        checkClock(other);
        return house.clocks.difference(one, other);
    }

    private void checkClock(int clock) {
        if (!house.clocks.has(clock)) {
            throw new IndexOutOfBoundsException("no such clock");
        }
    }

    private void checkBill(int bill) {
        if (!house.bills.has(bill)) {
            throw new IndexOutOfBoundsException("no such bill");
        }
    }

    // Questions about the row and hours to come

    public int row(int place) throws NoSuchElementException {
        return billAt(house.bills.row, place);
    }

    public int rowIn(int hours, int place) throws IllegalArgumentException, NoSuchElementException {
        checkRange(hours, MOST_HOURS);
        foresee(hours);
        return billAt(spare.bills.row, place);
    }

    public int rowAgain(int hours, int place) throws IllegalArgumentException, NoSuchElementException {
        checkRange(hours, MOST_HOURS);
        int bill = house.bills.billAfter(hours, place);
        if (bill == NOWHERE) {
            throw new NoSuchElementException("no such place");
        }
        return bill;
    }

    public int next() throws NoSuchElementException {
        int hours = house.bills.hoursToNext();
        if (hours == 0) {
            throw new NoSuchElementException("no bill is adjourned");
        }
        return hours;
    }

    public int silentIn(int clock) throws IndexOutOfBoundsException {
        checkClock(clock);
        foresee(0);
        int hours = 0;
        while (hours < FULL_SPRING && !spare.clocks.isSilent(clock)) {
            spare.passHours(1);
            hours++;
        }
        return hours;
    }

    public int secondIn(int clock, int hours) throws IndexOutOfBoundsException, IllegalArgumentException {
        checkClock(clock);
        checkRange(hours, LATEST_SECOND_TOLD);
        foresee(hours);
        return spare.clocks.seconds.at(clock);
    }

    private void checkRange(int hours, int most) {
        if (hours < 0 || hours > most) {
            throw new IllegalArgumentException("hours out of range");
        }
    }

    private int billAt(Numbers row, int place) {
        if (!row.has(place)) {
            throw new NoSuchElementException("no such place");
        }
        return row.at(place);
    }

    private void foresee(int hours) {
        spare.copyFrom(house);
        spare.passHours(hours);
    }

    // Questions about votes and orders of clocks

    public int voters(int bill) throws IndexOutOfBoundsException {
        checkBill(bill);
        return house.votersOn(bill);
    }

    public int majority(int bill) throws IndexOutOfBoundsException {
        checkBill(bill);
        return house.majorityOn(bill);
    }

    public int majorityAgain(int bill) throws IndexOutOfBoundsException {
        checkBill(bill);
        return house.majorityByLeanings(bill);
    }

    public boolean wouldCarry(int bill) throws IndexOutOfBoundsException {
        checkBill(bill);
        return house.isWon(bill);
    }

    public int carried() {
        int set = 0;
        for (int bill = 0; bill < house.bills.count(); bill++) {
            if (!house.bills.isAdjourned(bill) && house.isWon(bill)) {
                set |= 1 << bill;
            }
        }
        return set;
    }

    public int weakest() throws NoSuchElementException {
        if (house.clocks.count() == 0) {
            throw new NoSuchElementException("no clocks");
        }
        return house.clocks.weakestOfAll();
    }

    public int circle(int clock) throws IndexOutOfBoundsException {
        checkClock(clock);
        return house.clocks.reachedFrom(clock);
    }

    public int ranked(int kind, int place) throws IllegalArgumentException, NoSuchElementException {
        if (kind < 0 || kind > LAST_RANKING) {
            throw new IllegalArgumentException("no such kind");
        }
        int clock = house.clocks.clockRanked(kind, place);
        if (clock == NOBODY) {
            throw new NoSuchElementException("no such place");
        }
        return clock;
    }

    public boolean isTold() {
        return areMajoritiesTold() && areRowsTold() && areBillsTold();
    }

    private boolean areMajoritiesTold() {
        for (int bill = 0; bill < house.bills.count(); bill++) {
            if (house.majorityOn(bill) != house.majorityByLeanings(bill)) {
                return false;
            }
        }
        return true;
    }

    private boolean areRowsTold() {
        foresee(0);
        for (int hours = 0; hours <= MOST_HOURS; hours++) {
            for (int place = 0; place < MOST_BILLS; place++) {
                Numbers row = spare.bills.row;
                int bill = row.has(place) ? row.at(place) : NOWHERE;
                if (bill != house.bills.billAfter(hours, place)) {
                    return false;
                }
            }
            spare.passHours(1);
        }
        return true;
    }

    private boolean areBillsTold() {
        for (int bill = 0; bill < house.bills.count(); bill++) {
            boolean isInRow = house.bills.row.placeOf(bill) != NOWHERE;
            if (isInRow == house.bills.isAdjourned(bill)) {
                return false;
            }
        }
        return true;
    }

    // Texts of orders, and reasons

    public int append(char character) throws IllegalArgumentException, IllegalStateException {
        if (character < 32 || character > 126) {
            throw new IllegalArgumentException("no such character in a text");
        }
        if (input.length() >= LONGEST_INPUT) {
            throw new IllegalStateException("the input is full");
        }
        return input.add(character);
    }

    public int run() throws IllegalArgumentException, UnsupportedOperationException {
        latestFault = input.fault();
        if (latestFault != NO_FAULT) {
            input.clear();
            throw new IllegalArgumentException("the text has a fault");
        }
        spare.copyFrom(house);
        int done = 0;
        while (done <= LONGEST_INPUT && input.readNext(order)) {
            if (house.refuses(order, found)) {
                house.copyFrom(spare);
                kept.fill(ORDER_REFUSED, done);
                cause.copyFrom(found);
                input.clear();
                throw new UnsupportedOperationException("an order is refused");
            }
            house.carryOut(order);
            done++;
        }
        history.keep(spare);
        input.clear();
        return done;
    }

    public int faultPosition() {
        return latestFault;
    }

    public int reason(int depth, boolean isDetail) throws IllegalArgumentException, NoSuchElementException {
        if (depth != 0 && depth != 1) {
            throw new IllegalArgumentException("the depth is not 0 or 1");
        }
        Refusal asked = depth == 0 ? kept : cause;
        if (asked.isNone()) {
            throw new NoSuchElementException("no such reason");
        }
        return isDetail ? asked.detail : asked.number;
    }

    // Lines of text

    public int tell(int clock) throws IndexOutOfBoundsException {
        checkClock(clock);
        Clocks clocks = house.clocks;
        startLine(clock);
        write(':', clocks.seconds.at(clock));
        write('~', clocks.springs.at(clock));
        write('<', clocks.leanings.at(clock));
        for (int key = 0; key < KEYS; key++) {
            if (clocks.keepers.at(key) == clock) {
                write('k', key);
            }
        }
        return line.length();
    }

    public int tellBill(int bill) throws IndexOutOfBoundsException {
        checkBill(bill);
        startLine(bill);
        write('@', house.bills.seconds.at(bill));
        write('+', house.bills.needs.at(bill));
        if (house.bills.isAdjourned(bill)) {
            write('h', house.bills.hours.at(bill));
        }
        return line.length();
    }

    public int tellRow() {
        Numbers row = house.bills.row;
        line.setLength(0);
        if (row.count() > 0) {
            startLine(row.at(0));
        }
        for (int place = 1; place < row.count(); place++) {
            write(' ', row.at(place));
        }
        return line.length();
    }

    public char character(int index) throws IndexOutOfBoundsException {
        if (index < 0 || index >= line.length()) {
            throw new IndexOutOfBoundsException("no such index");
        }
        return line.charAt(index);
    }

    private void startLine(int number) {
        line.setLength(0);
        line.append(number);
    }

    private void write(char sign, int number) {
        line.append(sign);
        line.append(number);
    }

    // Accounts

    public int account(int what) throws IllegalArgumentException {
        switch (what) {
            case 0:
                return house.clocks.count();
            case 1:
                return house.clocks.springs.countOf(0);
            case 2:
                return house.bills.count();
            case 3:
                return house.bills.adjournedCount();
            case 4:
                return house.hoursGone;
            case 5:
                return house.clocks.springs.sum();
            case 6:
                return house.votesHeld;
            case 7:
                return house.billsCarried;
            case 8:
                return house.votesHeld - house.billsCarried;
            case 9:
                return house.chimes;
            case 10:
                return house.comebacks;
            case 11:
                return house.windings;
            case 12:
                return input.length();
            case 13:
                return history.count;
            default:
                throw new IllegalArgumentException("what is not 0 to 13");
        }
    }

    public double meanSpring() throws ArithmeticException {
        int clocks = house.clocks.count();
        if (clocks == 0) {
            throw new ArithmeticException("no clocks");
        }
        return (double) house.clocks.springs.sum() / (double) clocks;
    }

    public float carriedShare() throws ArithmeticException {
        if (house.votesHeld == 0) {
            throw new ArithmeticException("no votes");
        }
        return (float) house.billsCarried / (float) house.votesHeld;
    }

    // Undo and saving

    public int undo() throws IllegalStateException {
        if (history.count == 0) {
            throw new IllegalStateException("nothing to undo");
        }
        return history.giveBack(house);
    }

    public int save() {
        saved.copyFrom(house);
        isSaved = true;
        return house.clocks.count();
    }

    public int restore() throws IllegalStateException {
        if (!isSaved) {
            throw new IllegalStateException("nothing was saved");
        }
        house.copyFrom(saved);
        history.clear();
        return house.clocks.count();
    }

    /**
     * A list of numbers in a room that is made once. A place that it does not have answers 0 and
     * takes nothing, so that no index can go outside the room.
     */
    private static final class Numbers {
        private final int[] room;
        private int size = 0;

        Numbers(int most) {
            room = new int[Math.max(most, 0)];
        }

        int count() {
            return size;
        }

        boolean has(int place) {
            return place >= 0 && place < size;
        }

        int at(int place) {
            return has(place) ? room[place] : 0;
        }

        void put(int place, int number) {
            if (has(place)) {
                room[place] = number;
            }
        }

        void addTo(int place, int more) {
            put(place, at(place) + more);
        }

        void insert(int place, int number) {
            if (place < 0 || place > size || size >= room.length) {
                return;
            }
            for (int i = size; i > place; i--) {
                room[i] = room[i - 1];
            }
            room[place] = number;
            size++;
        }

        void add(int number) {
            insert(size, number);
        }

        void removeAt(int place) {
            if (!has(place)) {
                return;
            }
            for (int i = place; i + 1 < size; i++) {
                room[i] = room[i + 1];
            }
            size--;
        }

        /** Takes a number out of those that the list refers to: it becomes -1, later ones 1 less. */
        void forget(int number) {
            for (int i = 0; i < size; i++) {
                if (room[i] == number) {
                    room[i] = NOBODY;
                } else if (room[i] > number) {
                    room[i]--;
                }
            }
        }

        int placeOf(int number) {
            for (int i = 0; i < size; i++) {
                if (room[i] == number) {
                    return i;
                }
            }
            return NOWHERE;
        }

        int countOf(int number) {
            int found = 0;
            for (int i = 0; i < size; i++) {
                if (room[i] == number) {
                    found++;
                }
            }
            return found;
        }

        int sum() {
            int sum = 0;
            for (int i = 0; i < size; i++) {
                sum += room[i];
            }
            return sum;
        }

        void copyFrom(Numbers other) {
            size = 0;
            for (int i = 0; i < other.size && i < room.length; i++) {
                room[i] = other.room[i];
                size++;
            }
        }
    }

    /** The clocks, by their numbers, and who has the keys. */
    private static final class Clocks {
        private final Numbers seconds = new Numbers(MOST_CLOCKS);
        private final Numbers springs = new Numbers(MOST_CLOCKS);
        private final Numbers leanings = new Numbers(MOST_CLOCKS);
        private final Numbers votes = new Numbers(MOST_CLOCKS);
        private final Numbers keepers = new Numbers(KEYS);

        Clocks() {
            for (int key = 0; key < KEYS; key++) {
                keepers.add(NOBODY);
            }
        }

        int count() {
            return seconds.count();
        }

        boolean has(int clock) {
            return seconds.has(clock);
        }

        boolean isSilent(int clock) {
            return springs.at(clock) == 0;
        }

        int difference(int one, int other) {
            return secondsBetween(seconds.at(one), seconds.at(other));
        }

        boolean areAgreed(int one, int other) {
            return difference(one, other) <= SECONDS_OF_AGREEING;
        }

        boolean wouldVote(int clock, int second) {
            return springs.at(clock) > 0 && secondsBetween(seconds.at(clock), second) <= SECONDS_OF_VOTING;
        }

        int come(int second, int leaning) {
            seconds.add(second);
            springs.add(FULL_SPRING);
            leanings.add(leaning);
            votes.add(0);
            return count() - 1;
        }

        void remove(int clock) {
            seconds.removeAt(clock);
            springs.removeAt(clock);
            leanings.removeAt(clock);
            votes.removeAt(clock);
            keepers.forget(clock);
        }

        int giveKey(int key, int clock) {
            int before = keepers.at(key);
            keepers.put(key, clock);
            return before;
        }

        int windUp(int clock) {
            int before = springs.at(clock);
            springs.put(clock, FULL_SPRING);
            return before;
        }

        int moveOn(int clock, int by) {
            springs.addTo(clock, -springFor(by));
            goOn(clock, by);
            return seconds.at(clock);
        }

        void giveVote(int clock) {
            springs.addTo(clock, -1);
            votes.addTo(clock, 1);
        }

        void passHour() {
            for (int clock = 0; clock < count(); clock++) {
                if (!isSilent(clock)) {
                    springs.addTo(clock, -1);
                    // A clock that has just run down stands still in this very hour.
                    goOn(clock, isSilent(clock) ? 0 : 1);
                }
            }
        }

        private void goOn(int clock, int by) {
            seconds.put(clock, (seconds.at(clock) + by) % SECONDS);
        }

        int agreeingWith(int clock) {
            int set = 0;
            for (int other = 0; other < count(); other++) {
                if (other != clock && areAgreed(clock, other)) {
                    set |= 1 << other;
                }
            }
            return set;
        }

        int reachedFrom(int clock) {
            int set = 1 << clock;
            // Each round goes one step further, and no way to a clock has more steps than clocks.
            for (int round = 0; round < count(); round++) {
                for (int other = 0; other < count(); other++) {
                    if (isIn(set, other)) {
                        set |= agreeingWith(other);
                    }
                }
            }
            return set;
        }

        int weakestOfAll() {
            int weakest = 0;
            for (int clock = 1; clock < count(); clock++) {
                if (springs.at(clock) < springs.at(weakest)) {
                    weakest = clock;
                }
            }
            return weakest;
        }

        int clockRanked(int kind, int place) {
            Numbers values = valuesOf(kind);
            for (int clock = 0; clock < count(); clock++) {
                if (rankIn(values, clock) == place) {
                    return clock;
                }
            }
            return NOBODY;
        }

        private Numbers valuesOf(int kind) {
            switch (kind) {
                case 0:
                    return springs;
                case 1:
                    return seconds;
                case 2:
                    return leanings;
                default:
                    return votes;
            }
        }

        private int rankIn(Numbers values, int clock) {
            int ahead = 0;
            for (int other = 0; other < count(); other++) {
                int more = values.at(other) - values.at(clock);
                if (more > 0 || more == 0 && other < clock) {
                    ahead++;
                }
            }
            return ahead;
        }

        void copyFrom(Clocks other) {
            seconds.copyFrom(other.seconds);
            springs.copyFrom(other.springs);
            leanings.copyFrom(other.leanings);
            votes.copyFrom(other.votes);
            keepers.copyFrom(other.keepers);
        }

        static int springFor(int by) {
            return by / SECONDS_FOR_A_SPRING + 1;
        }

        static int secondsBetween(int one, int other) {
            int way = Math.abs(one - other);
            return Math.min(way, SECONDS - way);
        }
    }

    /** The bills, by their numbers, and the row of those that are on the table. */
    private static final class Bills {
        private final Numbers movers = new Numbers(MOST_BILLS);
        private final Numbers seconds = new Numbers(MOST_BILLS);
        private final Numbers needs = new Numbers(MOST_BILLS);
        private final Numbers hours = new Numbers(MOST_BILLS);
        private final Numbers adjournings = new Numbers(MOST_BILLS);
        private final Numbers row = new Numbers(MOST_BILLS);

        int count() {
            return movers.count();
        }

        boolean has(int bill) {
            return movers.has(bill);
        }

        boolean isAdjourned(int bill) {
            return hours.at(bill) > 0;
        }

        int adjournedCount() {
            return count() - hours.countOf(0);
        }

        int table(int mover, int second, int need) {
            int bill = count();
            movers.add(mover);
            seconds.add(second);
            needs.add(need);
            hours.add(0);
            adjournings.add(0);
            row.add(bill);
            return bill;
        }

        int putOff(int bill, int forHours) {
            hours.put(bill, forHours);
            adjournings.addTo(bill, 1);
            row.removeAt(row.placeOf(bill));
            return adjournedCount();
        }

        int remove(int bill) {
            movers.removeAt(bill);
            seconds.removeAt(bill);
            needs.removeAt(bill);
            hours.removeAt(bill);
            adjournings.removeAt(bill);
            row.removeAt(row.placeOf(bill));
            row.forget(bill);
            return count();
        }

        /** Lets an hour go by, and returns how many bills come back in it. */
        int passHour() {
            int back = 0;
            for (int bill = 0; bill < count(); bill++) {
                if (isAdjourned(bill)) {
                    hours.addTo(bill, -1);
                    if (!isAdjourned(bill)) {
                        row.insert(back, bill);
                        back++;
                    }
                }
            }
            return back;
        }

        /** In how many hours the next bill comes back, 0 if none is adjourned. */
        int hoursToNext() {
            int least = 0;
            for (int bill = 0; bill < count(); bill++) {
                if (isAdjourned(bill) && (least == 0 || hours.at(bill) < least)) {
                    least = hours.at(bill);
                }
            }
            return least;
        }

        /** The bill at a place of the row after some hours, found without letting them go by. */
        int billAfter(int later, int place) {
            if (place < 0) {
                return NOWHERE;
            }
            for (int bill = 0; bill < count(); bill++) {
                if (placeAfter(later, bill) == place) {
                    return bill;
                }
            }
            return NOWHERE;
        }

        private int placeAfter(int later, int bill) {
            if (hours.at(bill) > later) {
                return NOWHERE;
            }
            int ahead = 0;
            for (int other = 0; other < count(); other++) {
                if (isAdjourned(other) && hours.at(other) <= later && isAheadAsBack(other, bill)) {
                    ahead++;
                }
            }
            return isAdjourned(bill) ? ahead : ahead + row.placeOf(bill);
        }

        /** Who comes back later stands before who is there already. */
        private boolean isAheadAsBack(int other, int bill) {
            int later = hours.at(other) - hours.at(bill);
            return later > 0 || later == 0 && other < bill;
        }

        void copyFrom(Bills other) {
            movers.copyFrom(other.movers);
            seconds.copyFrom(other.seconds);
            needs.copyFrom(other.needs);
            hours.copyFrom(other.hours);
            adjournings.copyFrom(other.adjournings);
            row.copyFrom(other.row);
        }
    }

    /** All that goes back when a change is undone. */
    private static final class House {
        private final Clocks clocks = new Clocks();
        private final Bills bills = new Bills();
        private int hoursGone = 0;
        private int votesHeld = 0;
        private int billsCarried = 0;
        private int chimes = 0;
        private int comebacks = 0;
        private int windings = 0;

        void copyFrom(House other) {
            clocks.copyFrom(other.clocks);
            bills.copyFrom(other.bills);
            hoursGone = other.hoursGone;
            votesHeld = other.votesHeld;
            billsCarried = other.billsCarried;
            chimes = other.chimes;
            comebacks = other.comebacks;
            windings = other.windings;
        }

        /** Whether an order is refused; the first reason for which it is goes to why. */
        boolean refuses(Order order, Refusal why) {
            switch (order.kind) {
                case CLOCK:
                    return refusesClock(order.first, order.second, why);
                case LEAVE:
                    return why.isUnknown(clocks.has(order.first), order.first);
                case KEY:
                    return refusesKey(order.first, order.second, why);
                case WIND:
                    return refusesWinding(order.first, order.second, why);
                case MOVE:
                    return refusesMove(order.first, order.second, why);
                case BILL:
                    return refusesBill(order.first, order.second, order.third, why);
                case ADJOURN:
                    return refusesAdjourning(order.first, order.second, why);
                case DROP:
                    return why.isUnknown(bills.has(order.first), order.first);
                case VOTE:
                    return why.applies(bills.row.count() == 0, EMPTY_ROW, bills.adjournedCount());
                default:
                    return why.isOutside(order.first, 1, MOST_HOURS);
            }
        }

        private boolean refusesClock(int second, int leaning, Refusal why) {
            return why.isOutside(second, 0, SECONDS - 1)
                || why.isOutside(leaning, 0, TOP_LEANING)
                || why.applies(clocks.count() >= MOST_CLOCKS, FULL, MOST_CLOCKS);
        }

        private boolean refusesKey(int key, int clock, Refusal why) {
            return why.isUnknown(clocks.keepers.has(key), key)
                || why.isUnknown(clock == NOBODY || clocks.has(clock), clock)
                || why.applies(clocks.keepers.at(key) == clock, ALREADY_SO, clock);
        }

        private boolean refusesWinding(int key, int clock, Refusal why) {
            if (why.isUnknown(clocks.keepers.has(key), key) || why.isUnknown(clocks.has(clock), clock)) {
                return true;
            }
            int keeper = clocks.keepers.at(key);
            return why.applies(keeper == NOBODY, KEY_WITH_NOBODY, key)
                || why.applies(!clocks.areAgreed(keeper, clock), DISAGREEING, clocks.difference(keeper, clock))
                || why.applies(clocks.springs.at(clock) == FULL_SPRING, ALREADY_SO, FULL_SPRING);
        }

        private boolean refusesMove(int clock, int seconds, Refusal why) {
            int spring = clocks.springs.at(clock);
            return why.isUnknown(clocks.has(clock), clock)
                || why.isOutside(seconds, 1, SECONDS - 1)
                || why.applies(clocks.isSilent(clock), SILENT, clocks.seconds.at(clock))
                || why.applies(Clocks.springFor(seconds) > spring, TOO_WEAK, spring);
        }

        private boolean refusesBill(int clock, int second, int need, Refusal why) {
            return why.isUnknown(clocks.has(clock), clock)
                || why.isOutside(second, 0, SECONDS - 1)
                || why.isOutside(need, 1, TOP_NEED)
                || why.applies(clocks.isSilent(clock), SILENT, clocks.seconds.at(clock))
                || why.applies(bills.count() >= MOST_BILLS, FULL, MOST_BILLS);
        }

        private boolean refusesAdjourning(int bill, int hours, Refusal why) {
            return why.isUnknown(bills.has(bill), bill)
                || why.isOutside(hours, 1, LONGEST_ADJOURNING)
                || why.applies(bills.isAdjourned(bill), ADJOURNED, bills.hours.at(bill));
        }

        /** Does an order that is not refused, and returns what its method answers. */
        int carryOut(Order order) {
            switch (order.kind) {
                case CLOCK:
                    return clocks.come(order.first, order.second);
                case LEAVE:
                    return sendAway(order.first);
                case KEY:
                    return clocks.giveKey(order.first, order.second);
                case WIND:
                    windings++;
                    return clocks.windUp(order.second);
                case MOVE:
                    return clocks.moveOn(order.first, order.second);
                case BILL:
                    return bills.table(order.first, order.second, order.third);
                case ADJOURN:
                    return bills.putOff(order.first, order.second);
                case DROP:
                    return bills.remove(order.first);
                case VOTE:
                    return holdVote();
                default:
                    return passHours(order.first);
            }
        }

        private int sendAway(int clock) {
            clocks.remove(clock);
            bills.movers.forget(clock);
            return clocks.count();
        }

        private int holdVote() {
            int bill = bills.row.at(0);
            int voters = votersOn(bill);
            if (voters == 0) {
                bills.putOff(bill, 1);
                return 0;
            }
            int majority = majorityOf(voters);
            votesHeld++;
            billsCarried += isEnough(majority, bill) ? 1 : 0;
            chimes += CHIMES_OF_A_VOTE * Integer.bitCount(voters);
            for (int clock = 0; clock < clocks.count(); clock++) {
                if (isIn(voters, clock)) {
                    clocks.giveVote(clock);
                }
            }
            bills.remove(bill);
            return majority;
        }

        /** Lets hours go by, and returns how many bills come back in them. */
        int passHours(int hours) {
            int before = comebacks;
            for (int gone = 0; gone < hours; gone++) {
                hoursGone++;
                comebacks += bills.passHour();
                clocks.passHour();
            }
            return comebacks - before;
        }

        int votersOn(int bill) {
            int set = 0;
            for (int clock = 0; clock < clocks.count(); clock++) {
                if (clocks.wouldVote(clock, bills.seconds.at(bill))) {
                    set |= 1 << clock;
                }
            }
            return set;
        }

        int majorityOn(int bill) {
            return majorityOf(votersOn(bill));
        }

        private int majorityOf(int voters) {
            int more = 0;
            for (int clock = 0; clock < clocks.count(); clock++) {
                if (isIn(voters, clock)) {
                    int chimesFor = clocks.leanings.at(clock);
                    more += chimesFor - (CHIMES_OF_A_VOTE - chimesFor);
                }
            }
            return more;
        }

        int majorityByLeanings(int bill) {
            int more = 0;
            for (int leaning = 0; leaning <= TOP_LEANING; leaning++) {
                more += votersLeaning(bill, leaning) * (2 * leaning - CHIMES_OF_A_VOTE);
            }
            return more;
        }

        private int votersLeaning(int bill, int leaning) {
            int second = bills.seconds.at(bill);
            int voters = 0;
            for (int clock = 0; clock < clocks.count(); clock++) {
                if (clocks.leanings.at(clock) == leaning && clocks.wouldVote(clock, second)) {
                    voters++;
                }
            }
            return voters;
        }

        boolean isWon(int bill) {
            return isEnough(majorityOn(bill), bill);
        }

        // Without voters the majority is 0, which is less than any need.
        private boolean isEnough(int majority, int bill) {
            return majority >= bills.needs.at(bill);
        }
    }

    /** How things were before the latest changes, in a ring whose houses are used again. */
    private static final class History {
        private final House[] past = new House[MOST_UNDONE];
        private int oldest = 0;
        private int count = 0;

        History() {
            for (int i = 0; i < past.length; i++) {
                past[i] = new House();
            }
        }

        void keep(House house) {
            if (count < MOST_UNDONE) {
                count++;
            } else {
                oldest = (oldest + 1) % MOST_UNDONE;
            }
            past[placeOfLatest()].copyFrom(house);
        }

        /** Puts the house back to how it was, and returns how many times this can be done yet. */
        int giveBack(House house) {
            if (count > 0) {
                house.copyFrom(past[placeOfLatest()]);
                count--;
            }
            return count;
        }

        void clear() {
            count = 0;
        }

        private int placeOfLatest() {
            return Math.floorMod(oldest + count - 1, MOST_UNDONE);
        }
    }

    /** A reason for which something is refused, with its detail. */
    private static final class Refusal {
        private int number = 0;
        private int detail = 0;

        boolean isNone() {
            return number == 0;
        }

        void fill(int reason, int newDetail) {
            number = reason;
            detail = newDetail;
        }

        void clear() {
            fill(0, 0);
        }

        void copyFrom(Refusal other) {
            fill(other.number, other.detail);
        }

        boolean applies(boolean isSo, int reason, int newDetail) {
            if (isSo) {
                fill(reason, newDetail);
            }
            return isSo;
        }

        boolean isUnknown(boolean isThere, int asked) {
            return applies(!isThere, UNKNOWN, asked);
        }

        boolean isOutside(int value, int least, int most) {
            return applies(value < least || value > most, OUT_OF_RANGE, value);
        }
    }

    /**
     * The kinds of orders, with the forms that they have in a text: D is a digit, N a number, K a
     * digit or "-", ? says that the rest can be left out, and other signs stand for themselves.
     */
    private enum Kind {
        CLOCK("clock N D"),
        LEAVE("leave D"),
        KEY("key D K"),
        WIND("wind D D"),
        MOVE("move D N"),
        BILL("bill D N D"),
        ADJOURN("adjourn D N"),
        DROP("drop D"),
        VOTE("vote"),
        HOUR("hour? N");

        private static final Kind[] ALL = values();

        private final String form;

        Kind(String form) {
            this.form = form;
        }

        /** The first letters of the words are all different, so one tells the kind. */
        static Kind startingWith(char letter) {
            for (int i = 0; i < ALL.length; i++) {
                if (ALL[i].form.indexOf(letter) == 0) {
                    return ALL[i];
                }
            }
            return null;
        }
    }

    /** An order: its kind, and the numbers of its method in their order. */
    private static final class Order {
        private Kind kind = Kind.VOTE;
        private int first = 0;
        private int second = 0;
        private int third = 0;
        private int taken = 0;

        void fill(Kind newKind, int newFirst, int newSecond, int newThird) {
            kind = newKind;
            first = newFirst;
            second = newSecond;
            third = newThird;
            taken = 0;
        }

        void take(int number) {
            if (taken == 0) {
                first = number;
            } else if (taken == 1) {
                second = number;
            } else {
                third = number;
            }
            taken++;
        }
    }

    /** The input, and the reading of it as a text of orders. */
    private static final class OrderText {
        // The end is told by a sign that the input cannot hold.
        private static final char END = 0;

        private final StringBuilder text = new StringBuilder();
        private final Order tried = new Order();
        private int position = 0;

        int length() {
            return text.length();
        }

        int add(char character) {
            text.append(character);
            return text.length();
        }

        void clear() {
            text.setLength(0);
            position = 0;
        }

        /** Where the fault of the text is, or -1 for none: then its orders can be read one by one. */
        int fault() {
            position = 0;
            for (int orders = 0; orders <= LONGEST_INPUT && readOrder(tried); orders++) {
                if (here() == END) {
                    position = 0;
                    return NO_FAULT;
                }
                if (!skip(';')) {
                    break;
                }
            }
            return position;
        }

        /** Reads the next order of a text without a fault, if there is one. */
        boolean readNext(Order into) {
            skip(';');
            return here() != END && readOrder(into);
        }

        /** Reads an order; if it has a fault, this is at the position then. */
        private boolean readOrder(Order into) {
            Kind kind = Kind.startingWith(here());
            if (kind == null) {
                return false;
            }
            into.fill(kind, 0, 0, 0);
            String form = kind.form;
            for (int i = 0; i < form.length(); i++) {
                char part = form.charAt(i);
                if (part == '?' && here() != ' ') {
                    into.take(1);
                    return true;
                }
                if (part != '?' && !readPart(part, into)) {
                    return false;
                }
            }
            return true;
        }

        private boolean readPart(char part, Order into) {
            switch (part) {
                case 'D':
                    return readDigit(into);
                case 'N':
                    return readNumber(into);
                case 'K':
                    return readDigit(into) || readNobody(into);
                default:
                    return skip(part);
            }
        }

        private boolean readDigit(Order into) {
            int digit = digitHere();
            if (digit < 0) {
                return false;
            }
            position++;
            into.take(digit);
            return true;
        }

        private boolean readNumber(Order into) {
            int number = digitHere();
            if (number < 0) {
                return false;
            }
            position++;
            int ones = digitHere();
            if (ones >= 0) {
                position++;
                number = 10 * number + ones;
            }
            into.take(number);
            return true;
        }

        private boolean readNobody(Order into) {
            if (!skip('-')) {
                return false;
            }
            into.take(NOBODY);
            return true;
        }

        private boolean skip(char sign) {
            if (here() != sign) {
                return false;
            }
            position++;
            return true;
        }

        private int digitHere() {
            char sign = here();
            return sign >= '0' && sign <= '9' ? sign - '0' : -1;
        }

        private char here() {
            return position >= 0 && position < text.length() ? text.charAt(position) : END;
        }
    }

    private static boolean isIn(int set, int number) {
        return (set >> number & 1) != 0;
    }
}
