import java.util.NoSuchElementException;

/** The bounds that the document's terms name on plans and on carrying them out. */
public final class PlanTermsTest {
    private static final Class<?> UOE = UnsupportedOperationException.class;
    private static final Class<?> NSE = NoSuchElementException.class;

    private PlanTermsTest() {
    }

    public static void main(String[] args) {
        aPlanHasNoMove();
        aPlanHasOneMove();
        aPlanHasTwoMoves();
        aPlanHasNotThreeMoves();
        aChangeHasNotThreeMoves();
        movesAreMadeOneAfterTheOther();
        aMoveKeepsTheSeparation();
        theServedStationIsNotRegarded();
        theServedStationKeepsItsSeparations();
        theServedStationMayNotConflict();
        trialsDoNotMatter();
        aChannelThatIsAskedForIsGiven();
        fewerMovesAreBetter();
        oneMoveIsBetterThanTwo();
        thenTheLowerIdOfTheFirstMove();
        thenTheLowerChannelOfTheFirstMove();
        theFirstMoveGoesBeforeTheSecond();
        thenTheLowerIdOfTheSecondMove();
        thenTheLowerChannelOfTheSecondMove();
        thenTheSmallerDisturbance();
        thenTheLowerChannel();
        theDisturbanceIsThatAfterTheMoves();
        trialsEndBesideTheServedStation();
        trialsEndBesideAMovedStation();
        trialsInOrderStay();
        theLastPlanIsOfLicenseChangeOrComplain();
        otherCallsLeaveTheLastPlan();
        aComplaintWithoutPlanLeavesTheLastPlan();
        refusedPlansLeaveTheLastPlan();
        aComplaintAtTheMargin();
        theComplainingStationStays();
        theComplainingStationStaysInItsOwnPlanAlone();
        theDisturbanceOfAComplaint();
        theLastTwoOfSevenAreMoved();
        Checks.end();
    }

    private static void license(FrequencyOffice office, int... coordinates) {
        for (int i = 0; i + 1 < coordinates.length; i += 2) {
            office.license(coordinates[i], coordinates[i + 1], 100);
        }
    }

    /** Two stations of separation 3 on these channels. */
    private static FrequencyOffice two(int channel, int other) {
        FrequencyOffice office = Offices.crowded();
        license(office, 0, 0, 10, 10);
        bring(office, 1, other > channel ? 7 : 0);
        bring(office, 0, channel);
        bring(office, 1, other);
        channels("two stations", office, channel, other);
        return office;
    }

    private static void bring(FrequencyOffice office, int id, int channel) {
        if (office.channelOf(id) != channel) {
            office.change(id, channel);
        }
    }

    /** The channels of the stations in the ascending order of their ids. */
    private static void channels(String what, FrequencyOffice office, int... channels) {
        Checks.due(what + ": stations", channels.length, office::stationCount);
        for (int i = 0; i < channels.length; i++) {
            int position = i;
            Checks.due(what + ": channel of station " + i, channels[i],
                    () -> office.channelOf(office.stationAt(position)));
        }
        Checks.due(what + ": consistent", true, office::isConsistent);
    }

    /** The moves of the last plan, each as a station, its old and its new channel. */
    private static void moves(String what, FrequencyOffice office, int... moves) {
        int number = moves.length / 3;
        Checks.due(what + ": moves", number, office::moveCount);
        for (int i = 0; i < number; i++) {
            int move = i;
            Checks.due(what + ": station of move " + i, moves[3 * i], () -> office.movedStation(move));
            Checks.due(what + ": old channel of move " + i, moves[3 * i + 1], () -> office.movedFrom(move));
            Checks.due(what + ": new channel of move " + i, moves[3 * i + 2], () -> office.movedTo(move));
        }
        Checks.refused(what + ": station of no further move", NSE, () -> office.movedStation(number));
        Checks.refused(what + ": old channel of no further move", NSE, () -> office.movedFrom(number));
        Checks.refused(what + ": new channel of no further move", NSE, () -> office.movedTo(number));
    }

    private static void movesFor(String what, FrequencyOffice office, int x, int y, int moves) {
        Checks.due("35: " + what, moves, () -> office.movesFor(x, y));
        Checks.due("36: " + what, moves, () -> office.movesForByQueue(x, y));
    }

    private static void noMovesFor(String what, FrequencyOffice office, int x, int y) {
        Checks.refused("35: " + what, UOE, () -> office.movesFor(x, y));
        Checks.refused("36: " + what, UOE, () -> office.movesForByQueue(x, y));
        Checks.refused("6: " + what, UOE, () -> office.license(x, y, 9));
    }

    private static void movesToChange(String what, FrequencyOffice office, int id, int channel, int moves) {
        Checks.due("37: " + what, moves, () -> office.movesToChange(id, channel));
        Checks.due("38: " + what, moves, () -> office.movesToChangeByQueue(id, channel));
        Checks.due("39: " + what, moves, () -> office.change(id, channel));
    }

    private static void noMovesToChange(String what, FrequencyOffice office, int id, int channel) {
        Checks.refused("37: " + what, UOE, () -> office.movesToChange(id, channel));
        Checks.refused("38: " + what, UOE, () -> office.movesToChangeByQueue(id, channel));
        Checks.refused("39: " + what, UOE, () -> office.change(id, channel));
    }

    /** "A plan consists of 0, 1 or 2 moves": none. */
    private static void aPlanHasNoMove() {
        FrequencyOffice first = Offices.crowded();
        movesFor("the first station", first, 0, 0, 0);
        license(first, 0, 0);
        moves("6: the first station", first);
        FrequencyOffice office = two(0, 4);
        movesFor("channel 7 is open", office, 5, 5, 0);
        license(office, 5, 5);
        channels("6: channel 7 is open", office, 0, 4, 7);
        moves("6: channel 7 is open", office);
        movesToChange("3 is 3 away from 0", office, 1, 3, 0);
        moves("39: 3 is 3 away from 0", office);
    }

    /** One move. */
    private static void aPlanHasOneMove() {
        FrequencyOffice office = two(0, 5);
        movesFor("5 to 3", office, 5, 5, 1);
        license(office, 5, 5);
        channels("6: 5 to 3", office, 0, 3, 7);
        moves("6: 5 to 3", office, 1, 5, 3);
        FrequencyOffice change = two(0, 4);
        movesToChange("4 to 0", change, 0, 4, 1);
        channels("39: 4 to 0", change, 4, 0);
        moves("39: 4 to 0", change, 1, 4, 0);
    }

    /** Two moves. */
    private static void aPlanHasTwoMoves() {
        FrequencyOffice office = two(2, 5);
        movesFor("2 to 0, 5 to 3", office, 5, 5, 2);
        license(office, 5, 5);
        channels("6: 2 to 0, 5 to 3", office, 0, 3, 7);
        moves("6: 2 to 0, 5 to 3", office, 0, 2, 0, 1, 5, 3);
        FrequencyOffice change = two(0, 4);
        license(change, 5, 5);
        movesToChange("4 to 0, 7 to 3", change, 0, 6, 2);
        channels("39: 4 to 0, 7 to 3", change, 6, 0, 3);
        moves("39: 4 to 0, 7 to 3", change, 1, 4, 0, 2, 7, 3);
    }

    /** A station of separation 2 from two at another point, which are of separation 3. */
    private static FrequencyOffice oneAndTwo(int third) {
        FrequencyOffice office = Offices.withRadii(20, 200, 200);
        license(office, 0, 20, 40, 20, 40, 20);
        bring(office, 2, third);
        bring(office, 1, 2);
        channels("one and two", office, 0, 2, third);
        return office;
    }

    /** Not three: beside 0, 2 and 6, a third station at the point needs 5, 3 and 7 of the others, or as many. */
    private static void aPlanHasNotThreeMoves() {
        noMovesFor("three moves", oneAndTwo(6), 40, 20);
        movesFor("two of them", oneAndTwo(7), 40, 20, 2);
        FrequencyOffice office = oneAndTwo(6);
        office.change(1, 3);
        movesFor("two of them, by another way", office, 40, 20, 2);
        license(office, 40, 20);
        Checks.due("41: two moves", 2, office::moveCount);
    }

    /** Not three for a change either: 0, 4 and 2 would all have to go above channel 2. */
    private static void aChangeHasNotThreeMoves() {
        FrequencyOffice office = Offices.twoApart();
        license(office, 20, 0, 40, 0, 0, 0, 60, 0);
        channels("four stations", office, 0, 4, 7, 2);
        noMovesToChange("three moves", office, 2, 1);
        office.change(1, 5);
        movesToChange("two of them", office, 2, 1, 2);
        channels("39: two of them", office, 7, 5, 1, 3);
        moves("39: two of them", office, 0, 0, 7, 3, 2, 3);
    }

    /** "moves, which are made one after the other": here the higher id has to make room for the lower one. */
    private static void movesAreMadeOneAfterTheOther() {
        FrequencyOffice office = Offices.withRadii(10, 20, 40);
        license(office, 20, 10, 10, 0, 10, 10, 30, 10);
        movesFor("1 before 0", office, 10, 0, 2);
        license(office, 10, 0);
        channels("6: 1 before 0", office, 5, 3, 7, 2, 0);
        moves("6: 1 before 0", office, 1, 4, 3, 0, 0, 5);
    }

    /** "A move gives a licensed station another channel, at which it conflicts with no other licensed station ..." */
    private static void aMoveKeepsTheSeparation() {
        FrequencyOffice three = two(0, 5);
        license(three, 5, 5);
        moves("6: 3 away from channel 0 is enough", three, 1, 5, 3);
        FrequencyOffice four = two(0, 5);
        four.complain(0, 1);
        license(four, 5, 5);
        moves("6: 4 away after a complaint, not 3", four, 1, 5, 4);
        FrequencyOffice five = two(0, 5);
        five.complain(0, 1);
        five.complain(0, 1);
        Checks.due("28: 5 away", 5, () -> five.separation(0, 1));
        license(five, 5, 5);
        moves("6: 5 away after two complaints, not 4", five, 1, 5, 6);
    }

    /** "While a plan is made, the served station is not regarded as one of the licensed stations" */
    private static void theServedStationIsNotRegarded() {
        FrequencyOffice swap = two(0, 4);
        movesToChange("the other one may take its old channel", swap, 0, 4, 1);
        moves("39: the other one takes channel 0", swap, 1, 4, 0);
        FrequencyOffice near = two(0, 4);
        near.change(0, 1);
        movesToChange("the other one may come near its old channel", near, 0, 4, 1);
        moves("39: the other one takes channel 0, beside 1", near, 1, 4, 0);
        Checks.due("31: nor does it disturb its own plan", 4, () -> near.disturbanceAt(0, 0, 4));
        FrequencyOffice alone = Offices.crowded();
        license(alone, 0, 0);
        movesToChange("next to its own channel", alone, 0, 1, 0);
    }

    /** "but its separations from them are those of the served station": its complaints count. */
    private static void theServedStationKeepsItsSeparations() {
        movesToChange("3 away", complained(0), 1, 3, 0);
        movesToChange("less than 3 away", complained(0), 1, 2, 1);
        movesToChange("4 away after a complaint", complained(1), 1, 4, 0);
        movesToChange("less than 4 away", complained(1), 1, 3, 1);
        movesToChange("5 away after two complaints", complained(2), 1, 5, 0);
        noMovesToChange("less than 5 away, from 7 too", complained(2), 1, 4);
        movesToChange("less than 5 away from 0, not from 7", complained(2), 1, 2, 1);
    }

    /** Two stations on the channels 0 and 6, with complaints that ask for no other channels. */
    private static FrequencyOffice complained(int complaints) {
        FrequencyOffice office = two(0, 6);
        for (int i = 0; i < complaints; i++) {
            Checks.due("40: no conflict", 0, () -> office.complain(0, 1));
        }
        return office;
    }

    /** "After the moves, the served station has to conflict with no licensed station at its channel." */
    private static void theServedStationMayNotConflict() {
        FrequencyOffice office = two(0, 4);
        Checks.due("34: 7 alone", 0b10000000, () -> office.openChannels(5, 5));
        license(office, 5, 5);
        channels("6: 7", office, 0, 4, 7);
        noMovesFor("none", office, 5, 5);
        noMovesToChange("2 is in everybody's way", office, 0, 2);
        FrequencyOffice apart = new FrequencyOffice();
        license(apart, 0, 0, 0, 40);
        channels("6: out of reach the same channel", apart, 0, 0);
        FrequencyOffice reach = new FrequencyOffice();
        license(reach, 0, 0, 0, 39);
        channels("6: within reach another one", reach, 0, 4);
    }

    /** "Stations on trial do not matter for this." */
    private static void trialsDoNotMatter() {
        FrequencyOffice office = Offices.crowded();
        office.startTrial(0, 0, 9);
        office.startTrial(0, 0, 9);
        office.startTrial(0, 0, 9);
        Checks.due("34: all channels", 255, () -> office.openChannels(0, 0));
        movesFor("three trials", office, 0, 0, 0);
        license(office, 0, 0);
        Checks.due("6: trials do not disturb", 0, () -> office.channelOf(3));
        movesToChange("onto a trial", office, 3, 6, 0);
        Checks.due("24: all but one ended", 2, office::endedTrials);
        Checks.due("15: the one on channel 3 is left", true, () -> office.exists(1));
        movesToChange("onto the last trial", office, 3, 3, 0);
        Checks.due("24: all ended", 3, office::endedTrials);
    }

    /** "If a certain channel is asked for, the plan has to have this channel; otherwise it can be any." */
    private static void aChannelThatIsAskedForIsGiven() {
        for (int c = 1; c < 8; c++) {
            int channel = c;
            FrequencyOffice office = Offices.crowded();
            license(office, 0, 0);
            Checks.due("39: to channel " + c, 0, () -> office.change(0, channel));
            Checks.due("20: channel " + c, channel, () -> office.channelOf(0));
        }
        FrequencyOffice disturbed = Offices.oneApart();
        license(disturbed, 0, 0, 0, 0);
        movesToChange("the most disturbed one", disturbed, 1, 1, 0);
        channels("39: the most disturbed one", disturbed, 0, 1);
    }

    /** "the one with fewer moves is better": even if a move would bring a smaller disturbance or a lower channel. */
    private static void fewerMovesAreBetter() {
        FrequencyOffice disturbed = Offices.oneApart();
        license(disturbed, 0, 0, 0, 0, 0, 0);
        channels("6: disturbed by channel 4", disturbed, 0, 4, 7);
        moves("6: disturbed by channel 4", disturbed);
        FrequencyOffice higher = Offices.crowded();
        license(higher, 0, 0);
        higher.change(0, 2);
        license(higher, 20, 10);
        channels("6: the higher channel", higher, 2, 6);
        moves("6: the higher channel", higher);
    }

    /** Even if a plan with two moves would begin with a lower id. */
    private static void oneMoveIsBetterThanTwo() {
        FrequencyOffice office = Offices.withRadii(10, 20, 40);
        license(office, 20, 0, 30, 10);
        channels("6: two stations", office, 0, 4);
        license(office, 20, 10);
        channels("6: one move", office, 0, 4, 7);
        movesToChange("one move", office, 2, 5, 1);
        channels("39: one move", office, 0, 2, 5);
        moves("39: one move", office, 1, 4, 2);
    }

    /** "then the one whose first move has the station with the lower id": not the other order, for a lower channel. */
    private static void thenTheLowerIdOfTheFirstMove() {
        FrequencyOffice office = two(5, 2);
        license(office, 0, 10);
        channels("6: 0 before 1", office, 6, 0, 3);
        moves("6: 0 before 1", office, 0, 5, 6, 1, 2, 0);
    }

    /** "then the one whose first move has the lower new channel": 2, though 4 would bring a smaller disturbance. */
    private static void thenTheLowerChannelOfTheFirstMove() {
        FrequencyOffice office = Offices.withRadii(0, 30, 200);
        license(office, 20, 20, 20, 0);
        channels("6: two stations", office, 0, 4);
        movesToChange("0 to 2", office, 1, 0, 1);
        channels("39: 0 to 2", office, 2, 0);
        moves("39: 0 to 2", office, 0, 0, 2);
    }

    /** "then the same for the second move": the first one's channel 2 counts before the second one's lower id. */
    private static void theFirstMoveGoesBeforeTheSecond() {
        FrequencyOffice office = Offices.withRadii(20, 200, 200);
        license(office, 20, 0, 0, 0, 20, 10);
        channels("6: three stations", office, 0, 4, 7);
        license(office, 10, 10);
        channels("6: 4 to 2 first", office, 0, 2, 4, 7);
        moves("6: 4 to 2 first", office, 1, 4, 2, 2, 7, 4);
    }

    /** "then the same for the second move": the lower id, though a higher one would get a lower channel. */
    private static void thenTheLowerIdOfTheSecondMove() {
        FrequencyOffice office = Offices.withRadii(20, 200, 200);
        license(office, 0, 0, 10, 0, 30, 0);
        office.change(0, 1);
        license(office, 20, 10);
        channels("6: 1 before 2", office, 0, 5, 7, 2);
        moves("6: 1 before 2", office, 0, 1, 0, 1, 4, 5);
    }

    /** "then the same for the second move": the lower new channel 0, though 3 would leave channel 0 to the served. */
    private static void thenTheLowerChannelOfTheSecondMove() {
        FrequencyOffice office = two(5, 2);
        license(office, 0, 10);
        Checks.due("44: 0, not 3", 0, () -> office.movedTo(1));
        Checks.due("20: 3, not 0", 3, () -> office.channelOf(2));
        Checks.due("31: disturbed by the upper one, 3 away", 1 + 1 + 4, () -> office.disturbanceAt(0, 10, 3));
    }

    /** "then the one with the smaller disturbance at the point and the channel of the served station" */
    private static void thenTheSmallerDisturbance() {
        FrequencyOffice office = Offices.withRadii(20, 200, 200);
        license(office, 40, 0, 60, 0);
        Checks.due("34: 2 is open", 0b11111100, () -> withOne().openChannels(60, 0));
        channels("6: 4, not 2", office, 0, 4);
        FrequencyOffice far = new FrequencyOffice();
        license(far, 0, 0, 0, 39, 0, 78);
        channels("6: disturbed by the second one alone", far, 0, 4, 0);
    }

    private static FrequencyOffice withOne() {
        FrequencyOffice office = Offices.withRadii(20, 200, 200);
        license(office, 40, 0);
        return office;
    }

    /** "then the one with the lower channel" */
    private static void thenTheLowerChannel() {
        FrequencyOffice office = Offices.crowded();
        license(office, 0, 0, 0, 0);
        channels("6: 4 of 4 to 7", office, 0, 4);
        FrequencyOffice above = Offices.crowded();
        license(above, 0, 0);
        above.change(0, 7);
        license(above, 0, 0);
        channels("6: 0 of 0 to 3", above, 7, 0);
        FrequencyOffice complaint = Offices.oneApart();
        license(complaint, 0, 0, 0, 0);
        complaint.change(1, 1);
        complaint.complain(0, 1);
        channels("40: 4 of 4 to 7", complaint, 0, 4);
    }

    /** "the smaller disturbance ..., after the moves": before them channel 6 would be as good as 7. */
    private static void theDisturbanceIsThatAfterTheMoves() {
        FrequencyOffice office = two(0, 5);
        license(office, 5, 5);
        channels("6: 7 is further from 3 than 6", office, 0, 3, 7);
    }

    /** "the trials of all stations on trial that conflict with a licensed station are ended" */
    private static void trialsEndBesideTheServedStation() {
        FrequencyOffice office = Offices.crowded();
        for (int i = 0; i < 3; i++) {
            office.startTrial(0, 0, 9);
        }
        channels("7: three trials", office, 0, 3, 6);
        license(office, 0, 0);
        channels("6: 3 is 3 away from 0", office, 3, 6, 0);
        Checks.due("24: one ended", 1, office::endedTrials);
        Checks.due("15: it does not exist any more", false, () -> office.exists(0));
        Checks.refused("22: it does not exist any more", NSE, () -> office.isOnTrial(0));
        office.change(3, 4);
        channels("39: 3 and 6 are less than 3 away from 4", office, 4);
        Checks.due("24: three ended", 3, office::endedTrials);
        Checks.due("23: they did not expire", 0, office::expiredTotal);
        moves("39: ended trials are no moves", office);
        office.undo();
        channels("50: both trials go on", office, 3, 6, 0);
    }

    /** Here the trial is in the way of the station that is moved alone. */
    private static void trialsEndBesideAMovedStation() {
        FrequencyOffice office = new FrequencyOffice();
        license(office, 0, 0, 0, 35);
        office.change(1, 7);
        office.startTrial(0, 30, 9);
        Checks.due("7: the trial", 3, () -> office.channelOf(2));
        office.close(1);
        license(office, 0, 5);
        office.change(3, 5);
        channels("6: two stations and a trial between them", office, 0, 3, 5);
        license(office, 5, 0);
        moves("6: onto the trial", office, 3, 5, 3);
        Checks.due("15: the trial is ended", false, () -> office.exists(2));
        Checks.due("24: one ended", 1, office::endedTrials);
        channels("6: all are licensed", office, 0, 3, 7);
    }

    /** The other side: a trial out of reach, or at the separation itself, goes on. */
    private static void trialsInOrderStay() {
        FrequencyOffice apart = new FrequencyOffice();
        apart.startTrial(0, 0, 9);
        license(apart, 0, 40);
        channels("6: the same channel out of reach", apart, 0, 0);
        license(apart, 39, 0);
        channels("6: the same channel within reach", apart, 0, 0);
        Checks.due("15: it ended the trial", false, () -> apart.exists(0));
        FrequencyOffice near = new FrequencyOffice();
        license(near, 0, 39);
        near.startTrial(0, 0, 9);
        channels("7: a trial within reach", near, 0, 4);
        near.change(0, 5);
        Checks.due("15: 1 away from above", true, () -> near.exists(1));
        near.change(0, 3);
        Checks.due("15: 1 away from below", true, () -> near.exists(1));
        near.change(0, 4);
        Checks.due("15: not 1 away", false, () -> near.exists(1));
        Checks.due("24: one ended", 1, near::endedTrials);
    }

    /** "The last plan is the plan of the last license, change or complain that was carried out" */
    private static void theLastPlanIsOfLicenseChangeOrComplain() {
        FrequencyOffice office = two(0, 5);
        license(office, 5, 5);
        moves("6: its plan", office, 1, 5, 3);
        office.change(0, 6);
        moves("39: its plan", office, 2, 7, 0);
        office.undo();
        moves("50: the plan before", office, 1, 5, 3);
        office.complain(0, 1);
        Checks.due("27: upheld", 1, () -> office.complaintCount(0, 1));
        moves("40: its plan", office);
        office.close(2);
        office.change(1, 7);
        moves("39: its plan", office);
    }

    private static FrequencyOffice withAMove() {
        FrequencyOffice office = two(0, 5);
        license(office, 5, 5);
        return office;
    }

    /** No other modification and no look has a plan that counts. */
    private static void otherCallsLeaveTheLastPlan() {
        FrequencyOffice office = withAMove();
        office.renew(0, 9);
        office.movesToChange(0, 6);
        office.movesToChangeByQueue(0, 6);
        office.close(2);
        office.movesFor(5, 5);
        office.movesForByQueue(5, 5);
        office.openChannels(5, 5);
        moves("42: after other calls", office, 1, 5, 3);
        office.startTrial(5, 5, 9);
        office.confirm(3, 9);
        office.pass(9);
        office.save();
        moves("42: after a trial", office, 1, 5, 3);
        office.close(1);
        moves("42: the station possibly does not exist any more", office, 1, 5, 3);
        office.close(0);
        office.setRadii(1, 1, 1);
        moves("42: after new radii", office, 1, 5, 3);
        office.leastSpan();
        office.leastSpanByOrders();
        moves("42: after spans", office, 1, 5, 3);
    }

    /** "a complaint that needs no plan leaves the last plan as it was" */
    private static void aComplaintWithoutPlanLeavesTheLastPlan() {
        FrequencyOffice office = withAMove();
        Checks.due("40: 7 is 7 away from 0", 0, () -> office.complain(0, 2));
        moves("40: no plan", office, 1, 5, 3);
        FrequencyOffice none = Offices.crowded();
        for (int i = 0; i < 3; i++) {
            none.startTrial(0, 0, 9);
            none.confirm(i, 9);
        }
        Checks.due("40: 4 is 4 away from 0", 0, () -> none.complain(0, 1));
        Checks.refused("41: still no plan", NSE, none::moveCount);
        Checks.due("40: 4 is not 5 away from 0", 2, () -> none.complain(0, 1));
        Checks.due("41: the first plan", 1, none::moveCount);
    }

    /** "The last plan is the plan of the last ... that was carried out": a refused one was not. */
    private static void refusedPlansLeaveTheLastPlan() {
        FrequencyOffice office = withAMove();
        noMovesFor("no plan", office, 5, 5);
        moves("6: refused", office, 1, 5, 3);
        noMovesToChange("no plan", office, 0, 2);
        moves("39: refused", office, 1, 5, 3);
        Checks.due("40: 7 is 4 away from 3", 0, () -> office.complain(2, 1));
        Checks.refused("40: nobody can be 5 away from 3", UOE, () -> office.complain(1, 2));
        moves("40: refused", office, 1, 5, 3);
    }

    /** "If the two stations conflict then": at 4 - 3 = 1 they do not, at 4 - 4 = 0 they do. */
    private static void aComplaintAtTheMargin() {
        FrequencyOffice office = two(0, 4);
        Checks.due("29: the margin 1", 1, () -> office.margin(0, 1));
        Checks.due("40: no station gets a channel", 0, () -> office.complain(0, 1));
        Checks.due("29: the margin 0", 0, () -> office.margin(0, 1));
        channels("40: as before", office, 0, 4);
        Checks.due("40: the other one gets a channel", 1, () -> office.complain(0, 1));
        channels("40: the lowest one 5 away", office, 0, 5);
        Checks.due("29: the margin 0", 0, () -> office.margin(0, 1));
        FrequencyOffice other = two(7, 3);
        other.complain(1, 0);
        Checks.refused("40: nobody can be 5 away from 3", UOE, () -> other.complain(1, 0));
        Checks.due("40: from 7 one can", 1, () -> other.complain(0, 1));
        channels("40: 5 away from 7", other, 7, 0);
    }

    /** "the best plan that does not move the station that complains": 0 on channel 1 could have made room. */
    private static void theComplainingStationStays() {
        FrequencyOffice office = two(0, 4);
        license(office, 5, 5);
        office.change(0, 1);
        Checks.due("40: another one is moved, the other one gets its channel", 2, () -> office.complain(0, 1));
        channels("40: 0 stays", office, 1, 7, 4);
        moves("40: 0 stays", office, 2, 7, 4);
        FrequencyOffice held = two(3, 7);
        held.complain(0, 1);
        Checks.refused("40: 0 would have to be moved", UOE, () -> held.complain(0, 1));
        channels("40: as before", held, 3, 7);
        Checks.due("40: about the other one there is a plan", 1, () -> held.complain(1, 0));
    }

    /** Later plans may move the station that has complained. */
    private static void theComplainingStationStaysInItsOwnPlanAlone() {
        FrequencyOffice office = afterAComplaint();
        movesFor("2 to 0", office, 5, 5, 1);
        license(office, 5, 5);
        channels("6: 2 to 0", office, 0, 6, 3);
        moves("6: 2 to 0", office, 0, 2, 0);
        FrequencyOffice change = afterAComplaint();
        movesToChange("2 to 7", change, 1, 3, 1);
        channels("39: 2 to 7", change, 7, 3);
        moves("39: 2 to 7", change, 0, 2, 7);
    }

    private static FrequencyOffice afterAComplaint() {
        FrequencyOffice office = two(2, 5);
        Checks.due("40: 5 is 3 away from 2", 1, () -> office.complain(0, 1));
        channels("40: 6 is 4 away from 2", office, 2, 6);
        return office;
    }

    /** A plan for a complaint looks for the smaller disturbance within the far radius alone. */
    private static void theDisturbanceOfAComplaint() {
        channels("40: 4, out of reach of the third one", besideAThird(10), 4, 0, 4);
        channels("40: 7, within its reach", besideAThird(11), 7, 0, 4);
    }

    /** The first station is complained about by the second one, 30 away; the third one stands on channel 4. */
    private static FrequencyOffice besideAThird(int y) {
        FrequencyOffice office = new FrequencyOffice();
        license(office, 50, 50, 50, 80, 50, y);
        bring(office, 2, 4);
        bring(office, 1, 7);
        bring(office, 0, 1);
        bring(office, 1, 0);
        channels("before the complaint", office, 1, 0, 4);
        Checks.due("40: 1 is 1 away from 0", 1, () -> office.complain(1, 0));
        return office;
    }

    /** Of seven stations, those with the highest ids are tried last, after all others alone and in pairs. */
    private static void theLastTwoOfSevenAreMoved() {
        FrequencyOffice office = new FrequencyOffice();
        license(office, 99, 0, 99, 45, 99, 90, 50, 60, 0, 99, 0, 0, 5, 0);
        office.change(6, 5);
        office.change(5, 2);
        channels("five far off and two", office, 0, 0, 0, 0, 0, 2, 5);
        movesFor("the last two", office, 0, 5, 2);
        Checks.refused("6: there is no room", IllegalStateException.class, () -> office.license(0, 5, 9));
        office.close(0);
        license(office, 0, 5);
        channels("6: the last two", office, 0, 0, 0, 0, 0, 3, 7);
        moves("6: the last two", office, 5, 2, 0, 6, 5, 3);
    }
}
