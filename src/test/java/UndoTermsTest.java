/** The bounds that the document names on modifications, undo and snapshots (the terms on undo; promises 50 to 52). */
public final class UndoTermsTest {
    private static final Class<?> ISE = IllegalStateException.class;

    private interface Call {
        Object on(FrequencyOffice office);
    }

    private UndoTermsTest() {
    }

    public static void main(String[] args) {
        everyModificationIsUndone();
        modificationsThatShowNothingCount();
        otherCallsAreNoModifications();
        refusedCallsAreNoModifications();
        upToSixCanBeUndone();
        theSeventhCanNot();
        undoneModificationsMakeRoom();
        theLineIsNotAffected();
        theSnapshotIsNotAffected();
        theNextIdIsAffected();
        theTotalsAreAffected();
        theLastPlanIsAffected();
        thereIsNoSnapshotAtFirst();
        aSnapshotReplacesAnEarlierOne();
        theSnapshotIsKept();
        theSnapshotHoldsEverything();
        afterARestoreNothingCanBeUndone();
        saveAndRestoreCountStations();
        Checks.end();
    }

    /** Four modifications, so that two more can be undone together with them. */
    private static FrequencyOffice few() {
        FrequencyOffice office = new FrequencyOffice();
        office.license(10, 10, 200);
        office.save();
        office.license(15, 10, 20);
        office.startTrial(90, 90, 5);
        office.complain(0, 1);
        office.writeStation(2);
        return office;
    }

    private static void undone(String what, Look.Made made, int left, Call call) {
        Look.Made modified = () -> {
            FrequencyOffice office = made.office();
            call.on(office);
            return office;
        };
        if (Look.at(made.office()).equals(Look.at(modified.office()))) {
            Checks.report(what + " changes nothing, so that its undo shows nothing");
        }
        FrequencyOffice office = modified.office();
        Checks.due("50: undo of " + what, left, office::undo);
        Look.Made back = () -> {
            FrequencyOffice again = modified.office();
            again.undo();
            return again;
        };
        Checks.same("50: undo of " + what, Look.all(made), Look.all(back));
    }

    /** "The successful calls of setRadii, license, startTrial, confirm, renew, close, pass, change and complain ..." */
    private static void everyModificationIsUndone() {
        undone("setRadii", FrequencyOffice::new, 0, office -> office.setRadii(1, 2, 200));
        undone("the first license", FrequencyOffice::new, 0, office -> office.license(5, 5, 9));
        undone("the first startTrial", FrequencyOffice::new, 0, office -> office.startTrial(5, 5, 9));
        undone("the first pass", FrequencyOffice::new, 0, office -> office.pass(9));
        undone("license", UndoTermsTest::few, 4, office -> office.license(80, 80, 365));
        undone("license with an ended trial", UndoTermsTest::few, 4, office -> office.license(90, 90, 365));
        undone("startTrial", UndoTermsTest::few, 4, office -> office.startTrial(10, 10, 30));
        undone("confirm", UndoTermsTest::few, 4, office -> office.confirm(2, 100));
        undone("renew", UndoTermsTest::few, 4, office -> office.renew(1, 300));
        undone("close of the first", UndoTermsTest::few, 4, office -> office.close(0));
        undone("close of the middle one", UndoTermsTest::few, 4, office -> office.close(1));
        undone("close of the last", UndoTermsTest::few, 4, office -> office.close(2));
        undone("pass without expiry", UndoTermsTest::few, 4, office -> office.pass(4));
        undone("pass with an expiry", UndoTermsTest::few, 4, office -> office.pass(5));
        undone("pass with two expiries", UndoTermsTest::few, 4, office -> office.pass(20));
        undone("change", UndoTermsTest::few, 4, office -> office.change(1, 7));
        undone("change with a move", UndoTermsTest::few, 4, office -> office.change(0, 4));
        undone("complain without a plan", UndoTermsTest::five, 5, office -> office.complain(0, 1));
        undone("complain with a plan", UndoTermsTest::few, 4, office -> office.complain(0, 1));
    }

    private static FrequencyOffice five() {
        FrequencyOffice office = few();
        office.change(1, 7);
        return office;
    }

    /** A successful call is a modification even if no answer shows it. */
    private static void modificationsThatShowNothingCount() {
        FrequencyOffice office = new FrequencyOffice();
        office.setRadii(10, 20, 40);
        Checks.due("50: the radii as they were", 0, office::undo);
        office.license(0, 0, 9);
        office.startTrial(50, 50, 9);
        office.confirm(1, 9);
        Checks.due("50: the same expiry day", 2, office::undo);
        Checks.due("50: on trial again", true, () -> office.isOnTrial(1));
    }

    /** Looks, the line, a snapshot and the undo itself are no modifications. */
    private static void otherCallsAreNoModifications() {
        FrequencyOffice office = few();
        office.save();
        office.writeStation(0);
        office.lineAt(0);
        office.openChannels(0, 0);
        office.movesFor(50, 50);
        office.movesForByQueue(50, 50);
        office.movesToChange(0, 5);
        office.movesToChangeByQueue(0, 5);
        office.conflictsAt(0, 0, 0);
        office.disturbanceAt(0, 0, 0);
        office.meanDisturbance();
        office.isConsistent();
        office.leastSpan();
        office.leastSpanByOrders();
        office.usedSpan();
        Checks.due("50: the complaint", 3, office::undo);
        Checks.due("27: the complaint", 0, () -> office.complaintCount(0, 1));
        Checks.due("50: the trial", 2, office::undo);
        Checks.due("13: the trial", 2, office::stationCount);
    }

    /** "The successful calls": a refused one can't be undone, and takes no place among the six. */
    private static void refusedCallsAreNoModifications() {
        FrequencyOffice office = few();
        Checks.refused("2", ISE, () -> office.setRadii(1, 2, 3));
        Checks.refused("6", IllegalArgumentException.class, () -> office.license(0, 0, 0));
        Checks.refused("7", IllegalArgumentException.class, () -> office.startTrial(0, 0, 31));
        Checks.refused("8", ISE, () -> office.confirm(0, 9));
        Checks.refused("9", ISE, () -> office.renew(2, 9));
        Checks.refused("10", java.util.NoSuchElementException.class, () -> office.close(3));
        Checks.refused("11", IllegalArgumentException.class, () -> office.pass(100));
        Checks.refused("39", ISE, () -> office.change(0, 0));
        Checks.refused("40", ISE, () -> office.complain(0, 2));
        for (int left = 3; left >= 0; left--) {
            int due = left;
            Checks.due("50: after refusals", due, office::undo);
        }
        Checks.due("13: a new office", 0, office::stationCount);
        Checks.refused("50: after refusals", ISE, office::undo);
    }

    private static FrequencyOffice afterDays(int modifications) {
        FrequencyOffice office = new FrequencyOffice();
        for (int i = 0; i < modifications; i++) {
            office.pass(1);
        }
        return office;
    }

    private static void undoAll(FrequencyOffice office, int days, int number) {
        for (int done = 1; done <= number; done++) {
            int undone = done;
            Checks.due("50: undo " + done + " of " + number, number - undone, office::undo);
            Checks.due("50: day after undo " + done, days - undone, office::today);
        }
        Checks.refused("50: no undo after " + number, ISE, office::undo);
        Checks.due("50: day after a refused undo", days - number, office::today);
    }

    /** "The last 6 of them can be undone": all of up to six. */
    private static void upToSixCanBeUndone() {
        for (int modifications = 0; modifications <= 6; modifications++) {
            undoAll(afterDays(modifications), modifications, modifications);
        }
    }

    /** Of more than six the last six. */
    private static void theSeventhCanNot() {
        for (int modifications = 7; modifications <= 20; modifications++) {
            undoAll(afterDays(modifications), modifications, 6);
        }
    }

    /** What was undone counts no more: after k undos, six less k and the new ones can be undone, six at most. */
    private static void undoneModificationsMakeRoom() {
        for (int undos = 1; undos <= 6; undos++) {
            for (int more = 0; more <= 7; more++) {
                FrequencyOffice office = afterDays(9);
                for (int i = 0; i < undos; i++) {
                    office.undo();
                }
                for (int i = 0; i < more; i++) {
                    office.pass(1);
                }
                undoAll(office, 9 - undos + more, Math.min(6, 6 - undos + more));
            }
        }
    }

    private static void lineIs(String what, FrequencyOffice office, String want) {
        for (int i = 0; i < want.length(); i++) {
            int index = i;
            Checks.due(what + ": character " + i, want.charAt(i), () -> office.lineAt(index));
        }
        Checks.refused(what + ": the end", IndexOutOfBoundsException.class, () -> office.lineAt(want.length()));
    }

    /** "The line and the snapshot itself are not affected by undo and restore": the line. */
    private static void theLineIsNotAffected() {
        FrequencyOffice office = new FrequencyOffice();
        office.license(1, 2, 3);
        office.save();
        office.change(0, 5);
        office.writeStation(0);
        office.undo();
        lineIs("50: the channel before is not in the line", office, "0@1,2 c5 L3");
        office.restore();
        lineIs("52: nor is that of the snapshot", office, "0@1,2 c5 L3");
        FrequencyOffice none = new FrequencyOffice();
        none.save();
        none.license(1, 2, 3);
        none.writeStation(0);
        none.restore();
        lineIs("52: a line of a station that never was", none, "0@1,2 c0 L3");
        FrequencyOffice empty = new FrequencyOffice();
        empty.license(1, 2, 3);
        empty.save();
        empty.undo();
        empty.restore();
        lineIs("52: an empty line", empty, "");
    }

    /** "The line and the snapshot itself are not affected by undo and restore": the snapshot. */
    private static void theSnapshotIsNotAffected() {
        FrequencyOffice office = new FrequencyOffice();
        office.license(1, 2, 3);
        office.license(50, 2, 3);
        office.save();
        office.undo();
        office.undo();
        Checks.due("13: none", 0, office::stationCount);
        Checks.due("52: an undo takes nothing off the snapshot", 2, office::restore);
        Checks.due("18: its stations", 50, () -> office.xOf(1));
        FrequencyOffice late = new FrequencyOffice();
        late.license(1, 2, 3);
        late.save();
        late.license(50, 2, 3);
        late.undo();
        late.undo();
        Checks.due("52: the snapshot is not undone", 1, late::restore);
    }

    /** "everything else is, including the id that is given next" */
    private static void theNextIdIsAffected() {
        FrequencyOffice office = new FrequencyOffice();
        office.license(0, 0, 9);
        office.license(50, 0, 9);
        office.undo();
        Checks.due("6: the id of the undone one", 1, () -> office.license(0, 50, 9));
        office.save();
        office.startTrial(99, 99, 9);
        office.startTrial(99, 99, 9);
        office.restore();
        Checks.due("7: the id after the snapshot", 2, () -> office.startTrial(99, 99, 9));
        office.close(2);
        office.undo();
        Checks.due("7: the id after an undone close", 3, () -> office.startTrial(99, 99, 9));
        office.pass(9);
        office.undo();
        Checks.due("6: the id after an undone expiry", 4, () -> office.license(9, 99, 9));
    }

    /** "the totals" */
    private static void theTotalsAreAffected() {
        FrequencyOffice office = new FrequencyOffice();
        office.startTrial(0, 0, 9);
        office.license(0, 0, 5);
        Checks.due("24: one ended", 1, office::endedTrials);
        office.save();
        office.pass(5);
        office.startTrial(0, 0, 9);
        office.license(0, 0, 5);
        Checks.due("23: one expired", 1, office::expiredTotal);
        Checks.due("24: two ended", 2, office::endedTrials);
        office.undo();
        Checks.due("24: one ended", 1, office::endedTrials);
        office.undo();
        office.undo();
        Checks.due("23: none expired", 0, office::expiredTotal);
        office.undo();
        Checks.due("24: none ended", 0, office::endedTrials);
        office.restore();
        Checks.due("23: none expired", 0, office::expiredTotal);
        Checks.due("24: one ended", 1, office::endedTrials);
    }

    /** "and the last plan" */
    private static void theLastPlanIsAffected() {
        FrequencyOffice office = Offices.crowded();
        office.license(0, 0, 9);
        office.undo();
        Checks.refused("41: no plan any more", java.util.NoSuchElementException.class, office::moveCount);
        office.license(0, 0, 9);
        office.license(0, 0, 9);
        office.save();
        office.change(0, 4);
        Checks.due("41: a move", 1, office::moveCount);
        office.undo();
        Checks.due("41: no move", 0, office::moveCount);
        office.change(0, 4);
        office.change(0, 3);
        office.undo();
        Checks.due("41: a move again", 1, office::moveCount);
        Checks.due("42: its station", 1, () -> office.movedStation(0));
        Checks.due("43: its old channel", 4, () -> office.movedFrom(0));
        Checks.due("44: its new channel", 0, () -> office.movedTo(0));
        office.restore();
        Checks.due("41: the plan of the snapshot", 0, office::moveCount);
    }

    /** "IllegalStateException if there is no snapshot": not before a save, and no undo takes it away after one. */
    private static void thereIsNoSnapshotAtFirst() {
        FrequencyOffice office = new FrequencyOffice();
        Checks.refused("52: a new office", ISE, office::restore);
        office.license(0, 0, 9);
        Checks.refused("52: after a modification", ISE, office::restore);
        office.undo();
        Checks.refused("52: after an undo", ISE, office::restore);
        Checks.due("51: of an empty office", 0, office::save);
        Checks.due("52: of an empty office", 0, office::restore);
    }

    /** "Saves the state as a snapshot, which replaces an earlier one." */
    private static void aSnapshotReplacesAnEarlierOne() {
        FrequencyOffice office = new FrequencyOffice();
        office.license(0, 0, 9);
        Checks.due("51: one station", 1, office::save);
        office.license(50, 0, 9);
        Checks.due("51: two stations", 2, office::save);
        office.close(0);
        office.close(1);
        Checks.due("52: the later one", 2, office::restore);
        office.close(0);
        office.close(1);
        Checks.due("51: no station", 0, office::save);
        office.license(0, 50, 9);
        Checks.due("52: fewer stations than before", 0, office::restore);
        Checks.due("15: none of before", false, () -> office.exists(0));
        Checks.due("6: the id after the two of before", 2, () -> office.license(0, 0, 9));
    }

    /** "Restores the snapshot, which is kept." */
    private static void theSnapshotIsKept() {
        FrequencyOffice office = few();
        office.save();
        String saved = Look.at(office);
        for (int i = 0; i < 3; i++) {
            office.pass(6);
            office.change(1, 6);
            office.complain(0, 1);
            office.license(0, 0, 9);
            office.close(0);
            Checks.due("52: three stations", 3, office::restore);
            Checks.same("52: restored", saved, Look.at(office));
        }
    }

    /** The snapshot is the whole state, and what comes after it leaves it as it is. */
    private static void theSnapshotHoldsEverything() {
        FrequencyOffice office = Offices.busy();
        office.save();
        String saved = Look.at(office);
        for (int i = 0; i < 5; i++) {
            office.close(office.stationAt(0));
        }
        office.setRadii(0, 0, 0);
        for (int i = 0; i < 7; i++) {
            office.license(i, i, 365);
        }
        office.pass(99);
        Checks.due("52: five stations", 5, office::restore);
        Checks.same("52: restored", saved, Look.at(office));
        Checks.due("6: the next id", 7, () -> office.license(40, 99, 9));
    }

    /** "Afterwards nothing can be undone": but what comes after the restore can. */
    private static void afterARestoreNothingCanBeUndone() {
        FrequencyOffice office = few();
        office.pass(1);
        office.restore();
        Checks.refused("50: after a restore", ISE, office::undo);
        Checks.due("52: the restore stands", 1, office::stationCount);
        office.pass(2);
        office.pass(3);
        Checks.due("50: the second day", 1, office::undo);
        Checks.due("12: day 2", 2, office::today);
        Checks.due("50: the first day", 0, office::undo);
        Checks.due("12: day 0", 0, office::today);
        Checks.refused("50: not the restore", ISE, office::undo);
        FrequencyOffice none = new FrequencyOffice();
        none.save();
        none.restore();
        Checks.refused("50: a restore is no modification", ISE, none::undo);
    }

    /** "Returns the number of stations": from none to seven, licensed or on trial. */
    private static void saveAndRestoreCountStations() {
        FrequencyOffice office = Offices.empty();
        for (int stations = 0; stations <= 7; stations++) {
            int number = stations;
            Checks.due("51: stations", number, office::save);
            Checks.due("52: stations", number, office::restore);
            if (stations % 2 == 0 && stations < 7) {
                office.license(0, 0, 9);
            } else if (stations < 7) {
                office.startTrial(0, 0, 9);
            }
        }
    }
}
