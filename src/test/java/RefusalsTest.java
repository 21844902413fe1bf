import java.util.NoSuchElementException;

/**
 * The terms on exceptions, for every call of the face that can be refused: "A method that throws an exception changes
 * nothing. If several exceptions apply, the one that is documented first is thrown."
 */
public final class RefusalsTest {
    private static final Class<?> IAE = IllegalArgumentException.class;
    private static final Class<?> ISE = IllegalStateException.class;
    private static final Class<?> UOE = UnsupportedOperationException.class;
    private static final Class<?> NSE = NoSuchElementException.class;
    private static final Class<?> IOE = IndexOutOfBoundsException.class;
    private static final int MIN = Integer.MIN_VALUE;
    private static final int MAX = Integer.MAX_VALUE;
    /** In a busy office: the next id, an expired station, an ended trial, and numbers that are never ids. */
    private static final int[] NO_IDS = {7, 2, 4, -1, MIN, MAX};

    private interface Call {
        Object on(FrequencyOffice office);
    }

    private RefusalsTest() {
    }

    public static void main(String[] args) {
        busyIsBusy();
        radiiAndDays();
        newStations();
        newStationsWithoutRoomOrChannel();
        stationsOfNoId();
        terms();
        positionsAndCharacters();
        pairsOfNoIds();
        pairsOfOneId();
        pointsAndChannels();
        meanWithoutLicensed();
        changes();
        changesWithoutPlan();
        complaints();
        complaintsWithoutPlan();
        movesOfTheLastPlan();
        undoAndRestore();
        firstOfRadiiAndDays();
        firstOfNewStations();
        firstOfTerms();
        firstOfPairs();
        firstOfPlans();
        firstOfComplaints();
        Checks.end();
    }

    /** The call is refused, and the office then answers all as a twin of it that was never asked. */
    private static void refused(String what, Class<?> want, Look.Made made, Call call) {
        Checks.refused(what, want, () -> call.on(made.office()));
        Look.Made after = () -> {
            FrequencyOffice office = made.office();
            try {
                call.on(office);
            } catch (RuntimeException thrown) {
                // whether it is the right one has been checked above
            }
            return office;
        };
        Checks.same(what + ": nothing has changed", Look.all(made), Look.all(after));
    }

    private static void refused(String what, Class<?> want, Call call) {
        refused(what, want, Offices::busy, call);
    }

    /** The state in which most calls are refused here has to have all that a call could change. */
    private static void busyIsBusy() {
        FrequencyOffice office = Offices.busy();
        int[] ids = {0, 1, 3, 5, 6};
        for (int i = 0; i < ids.length; i++) {
            int position = i;
            Checks.due("busy: position " + i, ids[i], () -> office.stationAt(position));
        }
        Checks.due("busy: licensed", 4, office::licensedCount);
        Checks.due("busy: expired", 1, office::expiredTotal);
        Checks.due("busy: ended", 1, office::endedTrials);
        Checks.due("busy: a complaint", 1, () -> office.complaintCount(0, 1));
        Checks.due("busy: moves", 2, office::moveCount);
        Checks.due("busy: undone", 5, office::undo);
        Checks.due("busy: restored", 3, office::restore);
    }

    private static void radiiAndDays() {
        refused("2: a radius too small", IAE, Offices::crowded, o -> o.setRadii(-1, 5, 5));
        refused("2: a radius too large", IAE, Offices::crowded, o -> o.setRadii(5, 5, 201));
        refused("2: radii out of order", IAE, Offices::crowded, o -> o.setRadii(6, 5, 7));
        refused("2: a radius too large", IAE, o -> o.setRadii(5, 5, 201));
        refused("2: a station exists", ISE, o -> o.setRadii(5, 5, 200));
        for (int days : new int[] {0, -1, 100, MIN, MAX}) {
            refused("11: " + days + " days", IAE, o -> o.pass(days));
        }
        refused("11: past the last day", ISE, () -> Offices.onDay(999), o -> o.pass(1));
        refused("11: past the last day", ISE, RefusalsTest::stationOnDay901, o -> o.pass(99));
    }

    /** Its station would expire on the way to a day that can't be reached. */
    private static FrequencyOffice stationOnDay901() {
        FrequencyOffice office = Offices.onDay(901);
        office.license(5, 5, 50);
        return office;
    }

    private static void newStations() {
        int[][] bad = {
            {-1, 0, 9}, {100, 0, 9}, {MIN, 0, 9}, {MAX, 0, 9}, {0, -1, 9}, {0, 100, 9}, {0, MIN, 9}, {0, MAX, 9},
            {0, 0, 0}, {0, 0, -1}, {0, 0, 366}, {0, 0, MIN}, {0, 0, MAX},
        };
        for (int[] a : bad) {
            String what = a[0] + "," + a[1] + " for " + a[2];
            refused("6: " + what, IAE, o -> o.license(a[0], a[1], a[2]));
            refused("7: " + what, IAE, o -> o.startTrial(a[0], a[1], a[2]));
        }
        refused("7: 31 days", IAE, o -> o.startTrial(0, 0, 31));
    }

    private static void newStationsWithoutRoomOrChannel() {
        refused("6: an eighth station", ISE, Offices::full, o -> o.license(0, 0, 9));
        refused("7: an eighth station", ISE, Offices::full, o -> o.startTrial(0, 0, 9));
        refused("6: no plan", UOE, o -> o.license(12, 12, 9));
        refused("7: no channel", UOE, o -> o.startTrial(12, 12, 9));
        refused("35: no plan", UOE, o -> o.movesFor(12, 12));
        refused("36: no plan", UOE, o -> o.movesForByQueue(12, 12));
    }

    private static void stationsOfNoId() {
        for (int id : NO_IDS) {
            refused("8: id " + id, NSE, o -> o.confirm(id, 9));
            refused("9: id " + id, NSE, o -> o.renew(id, 9));
            refused("10: id " + id, NSE, o -> o.close(id));
            refused("18: id " + id, NSE, o -> o.xOf(id));
            refused("19: id " + id, NSE, o -> o.yOf(id));
            refused("20: id " + id, NSE, o -> o.channelOf(id));
            refused("21: id " + id, NSE, o -> o.expiryOf(id));
            refused("22: id " + id, NSE, o -> o.isOnTrial(id));
            refused("37: id " + id, NSE, o -> o.movesToChange(id, 5));
            refused("38: id " + id, NSE, o -> o.movesToChangeByQueue(id, 5));
            refused("39: id " + id, NSE, o -> o.change(id, 5));
            refused("48: id " + id, NSE, o -> o.writeStation(id));
        }
    }

    private static void terms() {
        for (int days : new int[] {0, -1, 366, MIN, MAX}) {
            refused("8: " + days + " days", IAE, o -> o.confirm(6, days));
            refused("9: " + days + " days", IAE, o -> o.renew(5, days));
        }
        refused("8: licensed", ISE, o -> o.confirm(5, 9));
        refused("9: on trial", ISE, o -> o.renew(6, 9));
        refused("9: one day too many", ISE, o -> o.renew(0, 172));
    }

    private static void positionsAndCharacters() {
        for (int position : new int[] {5, 6, -1, MIN, MAX}) {
            refused("16: position " + position, IOE, o -> o.stationAt(position));
            refused("17: position " + position, IOE, o -> o.stationByExpiry(position));
        }
        for (int index : new int[] {15, 16, -1, MIN, MAX}) {
            refused("49: index " + index, IOE, o -> o.lineAt(index));
        }
    }

    private static void pairRefused(Class<?> want, int id, int other) {
        String pair = id + " and " + other;
        refused("25: " + pair, want, o -> o.squaredDistance(id, other));
        refused("26: " + pair, want, o -> o.baseSeparation(id, other));
        refused("27: " + pair, want, o -> o.complaintCount(id, other));
        refused("28: " + pair, want, o -> o.separation(id, other));
        refused("29: " + pair, want, o -> o.margin(id, other));
        refused("40: " + pair, want, o -> o.complain(id, other));
    }

    private static void pairsOfNoIds() {
        for (int id : NO_IDS) {
            pairRefused(NSE, id, 0);
            pairRefused(NSE, 0, id);
        }
    }

    private static void pairsOfOneId() {
        pairRefused(IAE, 0, 0);
        pairRefused(IAE, 5, 5);
        pairRefused(IAE, 6, 6);
    }

    private static void pointsAndChannels() {
        int[][] points = {{-1, 0}, {100, 0}, {MIN, 0}, {MAX, 0}, {0, -1}, {0, 100}, {0, MIN}, {0, MAX}};
        for (int[] p : points) {
            String what = p[0] + "," + p[1];
            refused("30: " + what, IAE, o -> o.conflictsAt(p[0], p[1], 0));
            refused("31: " + what, IAE, o -> o.disturbanceAt(p[0], p[1], 0));
            refused("34: " + what, IAE, o -> o.openChannels(p[0], p[1]));
            refused("35: " + what, IAE, o -> o.movesFor(p[0], p[1]));
            refused("36: " + what, IAE, o -> o.movesForByQueue(p[0], p[1]));
        }
        for (int channel : new int[] {-1, 8, MIN, MAX}) {
            refused("30: channel " + channel, IAE, o -> o.conflictsAt(0, 0, channel));
            refused("31: channel " + channel, IAE, o -> o.disturbanceAt(0, 0, channel));
        }
    }

    private static void meanWithoutLicensed() {
        Class<?> none = ArithmeticException.class;
        refused("32: no station", none, FrequencyOffice::new, FrequencyOffice::meanDisturbance);
        refused("32: a trial alone", none, RefusalsTest::trialAlone, FrequencyOffice::meanDisturbance);
    }

    private static FrequencyOffice trialAlone() {
        FrequencyOffice office = Offices.busy();
        for (int id : new int[] {0, 1, 3, 5}) {
            office.close(id);
        }
        return office;
    }

    private static void changeRefused(String why, Class<?> want, Look.Made made, int id, int channel) {
        String what = why + ", " + id + " to " + channel;
        refused("37: " + what, want, made, o -> o.movesToChange(id, channel));
        refused("38: " + what, want, made, o -> o.movesToChangeByQueue(id, channel));
        refused("39: " + what, want, made, o -> o.change(id, channel));
    }

    private static void changes() {
        for (int channel : new int[] {-1, 8, MIN, MAX}) {
            changeRefused("no such channel", IAE, Offices::busy, 5, channel);
        }
        changeRefused("on trial", ISE, Offices::busy, 6, 5);
        changeRefused("on trial, its own channel", ISE, Offices::busy, 6, 4);
        for (int id : new int[] {0, 1, 3, 5}) {
            changeRefused("its own channel", ISE, Offices::busy, id, Offices.busy().channelOf(id));
        }
    }

    private static void changesWithoutPlan() {
        changeRefused("no plan", UOE, Offices::busy, 0, 2);
        changeRefused("no plan", UOE, Offices::busy, 3, 6);
    }

    private static void complaints() {
        refused("40: the trial complains", ISE, o -> o.complain(6, 5));
        refused("40: about the trial", ISE, o -> o.complain(5, 6));
        refused("40: the base separation 0", ISE, o -> o.complain(0, 5));
        refused("40: a third complaint", ISE, RefusalsTest::twiceUpheld, o -> o.complain(0, 1));
        refused("40: a third complaint of the other one", ISE, RefusalsTest::twiceUpheld, o -> o.complain(1, 0));
    }

    private static FrequencyOffice twiceUpheld() {
        FrequencyOffice office = Offices.busy();
        office.complain(0, 1);
        return office;
    }

    private static void complaintsWithoutPlan() {
        refused("40: no plan", UOE, RefusalsTest::middleComplains, o -> o.complain(1, 0));
    }

    /** Channel 4 has no channel that is 5 away from it. */
    private static FrequencyOffice middleComplains() {
        FrequencyOffice office = Offices.crowded();
        office.license(0, 0, 9);
        office.license(10, 10, 9);
        office.license(20, 20, 9);
        office.complain(1, 0);
        return office;
    }

    private static void movesOfTheLastPlan() {
        for (int move : new int[] {2, 3, -1, MIN, MAX}) {
            refused("42: move " + move, NSE, o -> o.movedStation(move));
            refused("43: move " + move, NSE, o -> o.movedFrom(move));
            refused("44: move " + move, NSE, o -> o.movedTo(move));
        }
        refused("41: no plan", NSE, Offices::crowded, FrequencyOffice::moveCount);
        refused("42: no plan", NSE, Offices::crowded, o -> o.movedStation(0));
        refused("43: no plan", NSE, Offices::crowded, o -> o.movedFrom(0));
        refused("44: no plan", NSE, Offices::crowded, o -> o.movedTo(0));
    }

    private static void undoAndRestore() {
        refused("50: nothing to undo", ISE, FrequencyOffice::new, FrequencyOffice::undo);
        refused("50: all undone", ISE, RefusalsTest::allUndone, FrequencyOffice::undo);
        refused("50: restored", ISE, RefusalsTest::restored, FrequencyOffice::undo);
        refused("52: no snapshot, but modifications", ISE, Offices::full, FrequencyOffice::restore);
        refused("52: no snapshot", ISE, FrequencyOffice::new, FrequencyOffice::restore);
    }

    private static FrequencyOffice allUndone() {
        FrequencyOffice office = Offices.busy();
        for (int i = 0; i < 6; i++) {
            office.undo();
        }
        return office;
    }

    private static FrequencyOffice restored() {
        FrequencyOffice office = Offices.busy();
        office.restore();
        return office;
    }

    private static void firstOfRadiiAndDays() {
        refused("2: a bad radius before a station", IAE, o -> o.setRadii(-1, 22, 60));
        refused("11: too many days before the last day", IAE, () -> Offices.onDay(999), o -> o.pass(100));
        refused("11: no days before the last day", IAE, () -> Offices.onDay(999), o -> o.pass(0));
    }

    private static void firstOfNewStations() {
        refused("6: a bad point before no room", IAE, Offices::full, o -> o.license(100, 0, 9));
        refused("6: bad days before no room", IAE, Offices::full, o -> o.license(0, 0, 366));
        refused("7: a bad point before no room", IAE, Offices::full, o -> o.startTrial(0, 100, 9));
        refused("7: bad days before no room", IAE, Offices::full, o -> o.startTrial(0, 0, 31));
        refused("6: bad days before no plan", IAE, o -> o.license(12, 12, 366));
        refused("7: bad days before no channel", IAE, o -> o.startTrial(12, 12, 31));
        refused("6: no room before no plan", ISE, RefusalsTest::fullAround, o -> o.license(12, 12, 9));
        refused("7: no room before no channel", ISE, RefusalsTest::fullAround, o -> o.startTrial(12, 12, 9));
        Checks.refused("35: no plan there", UOE, () -> fullAround().movesFor(12, 12));
    }

    /** Seven stations, and no plan for a new one at 12,12. */
    private static FrequencyOffice fullAround() {
        FrequencyOffice office = Offices.busy();
        office.license(12, 99, 9);
        office.startTrial(99, 12, 9);
        return office;
    }

    private static void firstOfTerms() {
        refused("8: no such id before bad days", NSE, o -> o.confirm(7, 366));
        refused("8: bad days before licensed", IAE, o -> o.confirm(5, 366));
        refused("9: no such id before bad days", NSE, o -> o.renew(7, 0));
        refused("9: bad days before on trial", IAE, o -> o.renew(6, 0));
        refused("9: bad days before too many", IAE, o -> o.renew(0, 366));
    }

    private static void firstOfPairs() {
        for (int id : NO_IDS) {
            pairRefused(NSE, id, id);
        }
    }

    private static void firstOfPlans() {
        refused("35: a bad point before no plan", IAE, RefusalsTest::noPlanAnywhere, o -> o.movesFor(0, 100));
        refused("36: a bad point before no plan", IAE, RefusalsTest::noPlanAnywhere, o -> o.movesForByQueue(-1, 0));
        changeRefused("no such id before a bad channel", NSE, Offices::busy, 7, 8);
        changeRefused("a bad channel before on trial", IAE, Offices::busy, 6, 8);
        changeRefused("on trial before no plan", ISE, RefusalsTest::trialAmongThree, 2, 2);
        FrequencyOffice confirmed = trialAmongThree();
        confirmed.confirm(2, 9);
        Checks.refused("37: no plan once it is licensed", UOE, () -> confirmed.movesToChange(2, 2));
    }

    private static FrequencyOffice noPlanAnywhere() {
        FrequencyOffice office = Offices.crowded();
        for (int i = 0; i < 3; i++) {
            office.license(i, i, 9);
        }
        return office;
    }

    /** Channels 0, 4 and 7; the two others can't both be 3 away from channel 2. */
    private static FrequencyOffice trialAmongThree() {
        FrequencyOffice office = Offices.crowded();
        office.license(0, 0, 9);
        office.license(0, 0, 9);
        office.startTrial(0, 0, 9);
        return office;
    }

    private static void firstOfComplaints() {
        refused("40: no such id before on trial", NSE, o -> o.complain(6, 7));
        refused("40: no such id before on trial", NSE, o -> o.complain(7, 6));
        refused("40: one id before on trial", IAE, o -> o.complain(6, 6));
        refused("40: a third complaint before no plan", ISE, RefusalsTest::twiceInTheMiddle, o -> o.complain(1, 0));
    }

    /** The complaint would ask for channels 6 apart, which nobody on channel 5 can have. */
    private static FrequencyOffice twiceInTheMiddle() {
        FrequencyOffice office = Offices.crowded();
        office.license(0, 0, 9);
        office.license(0, 0, 9);
        office.complain(0, 1);
        office.complain(0, 1);
        return office;
    }
}
