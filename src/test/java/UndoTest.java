import java.util.NoSuchElementException;

/** Promises 48 to 52: the line, undo and snapshots. */
public final class UndoTest {
    private static final Class<?> ISE = IllegalStateException.class;
    private static final Class<?> NSE = NoSuchElementException.class;
    private static final Class<?> IOE = IndexOutOfBoundsException.class;

    private UndoTest() {
    }

    public static void main(String[] args) {
        promises48And49Line();
        promise48Refusals();
        promise50EveryModification();
        promise50Totals();
        promise50LastPlan();
        promise50Complaints();
        promise50SixModifications();
        promise50NothingElse();
        promise51And52Snapshot();
        promise52Everything();
        lineStays();
        Checks.end();
    }

    private static void line(FrequencyOffice office, int id, String want) {
        Checks.due("48: length of " + want, want.length(), () -> office.writeStation(id));
        lineIs(office, want);
    }

    private static void lineIs(FrequencyOffice office, String want) {
        for (int i = 0; i < want.length(); i++) {
            int index = i;
            Checks.due("49: character " + i + " of " + want, want.charAt(i), () -> office.lineAt(index));
        }
        Checks.refused("49: past the end of " + want, IOE, () -> office.lineAt(want.length()));
        Checks.refused("49: far past the end", IOE, () -> office.lineAt(Integer.MAX_VALUE));
        Checks.refused("49: before the start", IOE, () -> office.lineAt(-1));
        Checks.refused("49: far before the start", IOE, () -> office.lineAt(Integer.MIN_VALUE));
    }

    private static void promises48And49Line() {
        FrequencyOffice office = Offices.crowded();
        lineIs(office, "");
        office.license(12, 40, 120);
        line(office, 0, "0@12,40 c0 L120");
        office.startTrial(0, 9, 1);
        line(office, 1, "1@0,9 c4 T1");
        for (int i = 0; i < 9; i++) {
            office.close(office.startTrial(1, 1, 1));
        }
        for (int i = 0; i < 10; i++) {
            office.pass(99);
        }
        office.license(99, 99, 365);
        line(office, 11, "11@99,99 c0 L1355");
        office.change(11, 7);
        lineIs(office, "11@99,99 c0 L1355");
        line(office, 11, "11@99,99 c7 L1355");
    }

    private static void promise48Refusals() {
        FrequencyOffice office = Offices.crowded();
        Checks.refused("48: no station", NSE, () -> office.writeStation(0));
        office.license(1, 2, 3);
        office.writeStation(0);
        Checks.refused("48: no such id", NSE, () -> office.writeStation(1));
        Checks.refused("48: id -1", NSE, () -> office.writeStation(-1));
        lineIs(office, "0@1,2 c0 L3");
        office.close(0);
        Checks.refused("48: closed", NSE, () -> office.writeStation(0));
        lineIs(office, "0@1,2 c0 L3");
    }

    private static void promise50EveryModification() {
        FrequencyOffice office = new FrequencyOffice();
        Checks.refused("50: nothing yet", ISE, office::undo);
        office.setRadii(1, 2, 200);
        Checks.due("50: setRadii", 0, office::undo);
        Checks.due("50: near", 10, office::nearRadius);
        Checks.due("50: middle", 20, office::middleRadius);
        Checks.due("50: far", 40, office::farRadius);
        office.license(5, 5, 9);
        Checks.due("50: license", 0, office::undo);
        Checks.due("50: no station", 0, office::stationCount);
        office.startTrial(5, 5, 9);
        Checks.due("50: startTrial", 0, office::undo);
        Checks.due("50: the next id", 0, () -> office.startTrial(5, 5, 9));
        office.confirm(0, 20);
        Checks.due("50: confirm", 1, office::undo);
        Checks.due("50: on trial again", true, () -> office.isOnTrial(0));
        Checks.due("50: until the old day", 9, () -> office.expiryOf(0));
        office.confirm(0, 20);
        office.renew(0, 100);
        Checks.due("50: renew", 2, office::undo);
        Checks.due("50: until the old day", 20, () -> office.expiryOf(0));
        office.close(0);
        Checks.due("50: close", 2, office::undo);
        Checks.due("50: it exists again", 5, () -> office.xOf(0));
        office.pass(20);
        Checks.due("50: pass", 2, office::undo);
        Checks.due("50: the day", 0, office::today);
        Checks.due("50: it exists again", true, () -> office.exists(0));
        office.change(0, 7);
        Checks.due("50: change", 2, office::undo);
        Checks.due("50: its old channel", 0, () -> office.channelOf(0));
    }

    private static void promise50Totals() {
        FrequencyOffice office = Offices.crowded();
        office.startTrial(0, 0, 9);
        office.license(0, 0, 9);
        Checks.due("24: ended", 1, office::endedTrials);
        office.pass(9);
        Checks.due("23: expired", 1, office::expiredTotal);
        office.undo();
        Checks.due("50: not expired", 0, office::expiredTotal);
        office.undo();
        Checks.due("50: not ended", 0, office::endedTrials);
        Checks.due("50: the trial goes on", true, () -> office.isOnTrial(0));
        Checks.due("50: the id is given again", 1, () -> office.license(0, 0, 9));
    }

    private static void promise50LastPlan() {
        FrequencyOffice office = Offices.crowded();
        office.license(0, 0, 9);
        office.undo();
        Checks.refused("50: no plan so far", NSE, office::moveCount);
        office.license(0, 0, 9);
        office.license(0, 0, 9);
        office.change(0, 4);
        office.change(0, 3);
        Checks.due("41: the last change", 0, office::moveCount);
        office.undo();
        Checks.due("50: the change before", 1, office::moveCount);
        Checks.due("50: its station", 1, () -> office.movedStation(0));
        Checks.due("50: its old channel", 4, () -> office.movedFrom(0));
        Checks.due("50: its new channel", 0, () -> office.movedTo(0));
    }

    private static void promise50Complaints() {
        FrequencyOffice office = new FrequencyOffice();
        office.setRadii(0, 0, 200);
        office.license(0, 0, 9);
        office.license(0, 0, 9);
        office.complain(0, 1);
        office.complain(0, 1);
        Checks.due("50: a complaint", 4, office::undo);
        Checks.due("50: one is left", 1, () -> office.complaintCount(0, 1));
        office.close(0);
        office.undo();
        Checks.due("50: upheld again", 1, () -> office.complaintCount(0, 1));
        office.change(1, 2);
        office.complain(0, 1);
        Checks.due("40: another channel", 4, () -> office.channelOf(1));
        office.undo();
        Checks.due("50: the channel before", 2, () -> office.channelOf(1));
        Checks.due("50: one is left", 1, () -> office.complaintCount(0, 1));
    }

    private static void promise50SixModifications() {
        FrequencyOffice office = Offices.empty();
        for (int i = 0; i < 19; i++) {
            office.pass(1);
        }
        for (int left = 5; left >= 3; left--) {
            int due = left;
            Checks.due("50: left", due, office::undo);
        }
        Checks.due("50: day", 16, office::today);
        office.pass(10);
        office.pass(10);
        Checks.due("50: four of them", 4, office::undo);
        for (int i = 0; i < 5; i++) {
            office.pass(10);
        }
        Checks.due("12: day", 76, office::today);
        for (int left = 5; left >= 0; left--) {
            int due = left;
            Checks.due("50: left", due, office::undo);
            Checks.due("50: day", due == 0 ? 16 : 16 + 10 * due, office::today);
        }
        Checks.refused("50: not a seventh one", ISE, office::undo);
        Checks.due("50: as before", 16, office::today);
    }

    private static void promise50NothingElse() {
        FrequencyOffice office = Offices.empty();
        office.license(0, 0, 9);
        office.writeStation(0);
        office.save();
        office.movesFor(1, 1);
        office.movesToChange(0, 3);
        Checks.refused("50: a refusal is no modification", ISE, () -> office.change(0, 0));
        Checks.due("50: only the licence", 1, office::undo);
        Checks.due("50: no station", 0, office::stationCount);
    }

    private static void promise51And52Snapshot() {
        FrequencyOffice office = Offices.crowded();
        Checks.refused("52: no snapshot", ISE, office::restore);
        office.license(0, 0, 9);
        office.startTrial(0, 0, 9);
        Checks.due("51: the number of stations", 2, office::save);
        Checks.due("50: a snapshot is no modification", 2, office::undo);
        office.close(0);
        Checks.due("52: the number of stations", 2, office::restore);
        Checks.refused("52: nothing can be undone", ISE, office::undo);
        Checks.due("52: the licensed one", false, () -> office.isOnTrial(0));
        Checks.due("52: the trial", true, () -> office.isOnTrial(1));
        office.pass(9);
        Checks.due("52: the snapshot is kept", 2, office::restore);
        Checks.due("52: the day", 0, office::today);
        office.close(0);
        Checks.due("51: another snapshot", 1, office::save);
        Checks.due("50: after a restore", 0, office::undo);
        Checks.due("52: the other snapshot", 1, office::restore);
        Checks.due("52: it is gone", false, () -> office.exists(0));
    }

    private static void promise52Everything() {
        FrequencyOffice office = new FrequencyOffice();
        office.save();
        office.setRadii(0, 0, 200);
        office.license(0, 0, 9);
        office.license(0, 0, 9);
        office.startTrial(0, 0, 9);
        office.complain(0, 1);
        office.change(0, 2);
        office.pass(9);
        Checks.due("52: nothing", 0, office::restore);
        Checks.due("52: the radius", 40, office::farRadius);
        Checks.due("52: expired", 0, office::expiredTotal);
        Checks.due("52: the day", 0, office::today);
        Checks.refused("52: no plan so far", NSE, office::moveCount);
        Checks.due("52: the next id", 0, () -> office.license(1, 1, 9));
        restoredPlanAndComplaint();
    }

    private static void restoredPlanAndComplaint() {
        FrequencyOffice office = Offices.crowded();
        office.startTrial(0, 0, 9);
        office.license(0, 0, 9);
        office.license(0, 0, 9);
        office.complain(1, 2);
        office.change(1, 4);
        office.save();
        office.pass(9);
        office.license(0, 0, 9);
        office.restore();
        Checks.due("52: the complaint", 1, () -> office.complaintCount(1, 2));
        Checks.due("52: the plan", 1, office::moveCount);
        Checks.due("52: its station", 2, () -> office.movedStation(0));
        Checks.due("52: the ended trial", 1, office::endedTrials);
        Checks.due("52: not expired", 0, office::expiredTotal);
        Checks.due("52: its channel", 4, () -> office.channelOf(1));
        Checks.due("52: the next id", 3, () -> office.license(99, 99, 9));
    }

    private static void lineStays() {
        FrequencyOffice office = Offices.empty();
        office.license(1, 2, 3);
        office.save();
        office.writeStation(0);
        office.undo();
        lineIs(office, "0@1,2 c0 L3");
        office.restore();
        lineIs(office, "0@1,2 c0 L3");
        office.license(4, 5, 6);
        office.writeStation(1);
        office.restore();
        lineIs(office, "1@4,5 c0 L6");
    }
}
