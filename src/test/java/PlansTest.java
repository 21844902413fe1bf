import java.util.NoSuchElementException;

/** Promises 34 to 44: plans, and what carrying them out does. */
public final class PlansTest {
    private static final Class<?> IAE = IllegalArgumentException.class;
    private static final Class<?> ISE = IllegalStateException.class;
    private static final Class<?> UOE = UnsupportedOperationException.class;
    private static final Class<?> NSE = NoSuchElementException.class;

    private PlansTest() {
    }

    public static void main(String[] args) {
        promise34OpenChannels();
        promises35And36MovesFor();
        promises34To36Refusals();
        promises37To39Change();
        promises37To39Order();
        promises37To39Refusals();
        promise39EndsTrials();
        promise40WithoutPlan();
        promise40WithPlan();
        promise40Held();
        promise40NoPlan();
        promise40Refusals();
        promises41To44LastPlan();
        promises41To44TwoMoves();
        Checks.end();
    }

    /** Three stations of separation 3 with the channels 0, 4 and 7. */
    private static FrequencyOffice three() {
        FrequencyOffice office = Offices.crowded();
        for (int i = 0; i < 3; i++) {
            office.license(10 * i, 10 * i, 100);
        }
        return office;
    }

    /** Two stations of separation 3 with two channels. */
    private static FrequencyOffice two(int channel, int other) {
        FrequencyOffice office = Offices.crowded();
        office.license(0, 0, 100);
        office.license(10, 10, 100);
        if (other != 4) {
            office.change(1, other);
        }
        if (channel != 0) {
            office.change(0, channel);
        }
        return office;
    }

    private static void channels(String what, FrequencyOffice office, int... channels) {
        for (int i = 0; i < channels.length; i++) {
            int id = i;
            Checks.due(what + ": channel of " + i, channels[i], () -> office.channelOf(id));
        }
    }

    private static void move(String what, FrequencyOffice office, int move, int id, int from, int to) {
        Checks.due(what + ": station of move " + move, id, () -> office.movedStation(move));
        Checks.due(what + ": old channel of move " + move, from, () -> office.movedFrom(move));
        Checks.due(what + ": new channel of move " + move, to, () -> office.movedTo(move));
    }

    private static void promise34OpenChannels() {
        FrequencyOffice office = Offices.crowded();
        Checks.due("34: all", 255, () -> office.openChannels(0, 0));
        office.startTrial(0, 0, 9);
        Checks.due("34: trials do not matter", 255, () -> office.openChannels(99, 99));
        office.license(0, 0, 9);
        Checks.due("34: beside channel 0", 0b11111000, () -> office.openChannels(99, 0));
        office.license(0, 0, 9);
        Checks.due("34: beside channels 0 and 4", 0b10000000, () -> office.openChannels(0, 99));
        office.complain(1, 2);
        Checks.due("34: a new station has no complaints", 0b10000000, () -> office.openChannels(0, 0));
        office.license(0, 0, 9);
        Checks.due("34: none", 0, () -> office.openChannels(0, 0));
        FrequencyOffice wide = new FrequencyOffice();
        wide.license(50, 50, 9);
        Checks.due("34: the separation 2", 0b11111100, () -> wide.openChannels(50, 60));
        Checks.due("34: the separation 1", 0b11111110, () -> wide.openChannels(50, 70));
        Checks.due("34: out of reach", 255, () -> wide.openChannels(50, 90));
    }

    private static void promises35And36MovesFor() {
        movesFor("no station", Offices.crowded(), 0);
        movesFor("no move", two(0, 4), 0);
        movesFor("one move", two(0, 5), 1);
        movesFor("two moves", two(2, 5), 2);
        FrequencyOffice full = three();
        Checks.refused("35: no plan", UOE, () -> full.movesFor(5, 5));
        Checks.refused("36: no plan", UOE, () -> full.movesForByQueue(5, 5));
        channels("35: nothing is moved", full, 0, 4, 7);
    }

    private static void movesFor(String what, FrequencyOffice office, int moves) {
        int channel = office.exists(1) ? office.channelOf(1) : 0;
        Checks.due("36: " + what, moves, () -> office.movesForByQueue(5, 5));
        Checks.due("35: " + what, moves, () -> office.movesFor(5, 5));
        Checks.due("35: nothing is moved: " + what, channel, () -> office.exists(1) ? office.channelOf(1) : 0);
        int count = office.stationCount();
        Checks.due("35: nothing is licensed: " + what, count, office::stationCount);
    }

    private static void promises34To36Refusals() {
        FrequencyOffice office = three();
        int[][] bad = {
            {-1, 0}, {100, 0}, {0, -1}, {0, 100}, {Integer.MAX_VALUE, 0}, {0, Integer.MIN_VALUE},
        };
        for (int[] a : bad) {
            String at = a[0] + " " + a[1];
            Checks.refused("34: " + at, IAE, () -> office.openChannels(a[0], a[1]));
            Checks.refused("35: the range comes before no plan: " + at, IAE, () -> office.movesFor(a[0], a[1]));
            Checks.refused("36: the range comes before no plan: " + at, IAE,
                    () -> office.movesForByQueue(a[0], a[1]));
        }
    }

    private static void movesToChange(FrequencyOffice office, int id, int channel, int moves) {
        String what = "station " + id + " to channel " + channel;
        Checks.due("38: " + what, moves, () -> office.movesToChangeByQueue(id, channel));
        Checks.due("37: " + what, moves, () -> office.movesToChange(id, channel));
        Checks.due("39: " + what, moves, () -> office.change(id, channel));
        Checks.due("41: " + what, moves, office::moveCount);
    }

    private static void promises37To39Change() {
        FrequencyOffice none = three();
        movesToChange(none, 1, 3, 0);
        channels("39: no move", none, 0, 3, 7);
        FrequencyOffice one = two(0, 4);
        movesToChange(one, 0, 4, 1);
        channels("39: they change places", one, 4, 0);
        move("39: they change places", one, 0, 1, 4, 0);
        FrequencyOffice both = three();
        movesToChange(both, 0, 6, 2);
        channels("39: both others move", both, 6, 0, 3);
        move("39: both others move", both, 0, 1, 4, 0);
        move("39: both others move", both, 1, 2, 7, 3);
        FrequencyOffice complained = three();
        complained.complain(0, 1);
        refuse(complained, 2, 6, UOE);
        movesToChange(three(), 2, 6, 1);
    }

    private static void promises37To39Order() {
        FrequencyOffice office = three();
        movesToChange(office, 1, 0, 1);
        channels("39: 3 is lower than 4", office, 3, 0, 7);
        FrequencyOffice far = new FrequencyOffice();
        far.license(0, 0, 100);
        far.license(99, 99, 100);
        far.license(0, 20, 100);
        movesToChange(far, 0, 4, 1);
        move("39: only a move that helps", far, 0, 2, 4, 0);
    }

    private static void promises37To39Refusals() {
        FrequencyOffice office = three();
        office.close(2);
        office.startTrial(0, 0, 9);
        refuse(office, 2, 0, NSE);
        refuse(office, -1, 8, NSE);
        refuse(office, 4, -1, NSE);
        refuse(office, 0, 8, IAE);
        refuse(office, 0, -1, IAE);
        refuse(office, 1, Integer.MAX_VALUE, IAE);
        refuse(office, 1, Integer.MIN_VALUE, IAE);
        refuse(office, 3, 8, IAE);
        refuse(office, 3, 5, ISE);
        refuse(office, 3, 7, ISE);
        refuse(office, 0, 0, ISE);
        refuse(office, 1, 4, ISE);
        channels("39: as before", office, 0, 4);
        FrequencyOffice full = three();
        refuse(full, 0, 2, UOE);
        channels("39: as before", full, 0, 4, 7);
        Checks.due("39: modifications: 3 licences and the radii", 3, full::undo);
    }

    private static void refuse(FrequencyOffice office, int id, int channel, Class<?> want) {
        String what = "station " + id + " to channel " + channel;
        Checks.refused("37: " + what, want, () -> office.movesToChange(id, channel));
        Checks.refused("38: " + what, want, () -> office.movesToChangeByQueue(id, channel));
        Checks.refused("39: " + what, want, () -> office.change(id, channel));
    }

    private static void promise39EndsTrials() {
        FrequencyOffice office = Offices.crowded();
        office.license(0, 0, 100);
        office.startTrial(0, 0, 9);
        office.startTrial(0, 0, 9);
        Checks.due("39: trials do not matter", 0, () -> office.movesToChange(0, 5));
        Checks.due("39: a look ends no trial", 3, office::stationCount);
        Checks.due("39: onto the channel of a trial", 0, () -> office.change(0, 2));
        Checks.due("39: the one at channel 4 is ended", false, () -> office.exists(1));
        Checks.due("39: the one at channel 7 is not", true, () -> office.exists(2));
        Checks.due("39: one trial ended", 1, office::endedTrials);
    }

    private static void promise40WithoutPlan() {
        FrequencyOffice office = new FrequencyOffice();
        office.setRadii(0, 0, 200);
        office.license(0, 0, 9);
        office.license(9, 9, 9);
        office.change(0, 1);
        office.change(0, 0);
        office.startTrial(0, 0, 9);
        Checks.due("40: no channel changes", 0, () -> office.complain(0, 1));
        Checks.due("40: upheld", 1, () -> office.complaintCount(0, 1));
        Checks.due("40: the second one", 0, () -> office.complain(1, 0));
        Checks.due("40: upheld", 2, () -> office.complaintCount(0, 1));
        channels("40: no channel changes", office, 0, 4);
        Checks.refused("40: not a third one", ISE, () -> office.complain(0, 1));
        Checks.refused("40: not a third one of the other", ISE, () -> office.complain(1, 0));
        Checks.due("40: the last plan is the last change", 0, office::moveCount);
        FrequencyOffice apart = Offices.crowded();
        apart.startTrial(0, 0, 9);
        apart.startTrial(0, 0, 9);
        apart.confirm(0, 9);
        apart.startTrial(0, 0, 9);
        apart.confirm(2, 9);
        apart.complain(0, 2);
        Checks.refused("40: no plan is needed", NSE, apart::moveCount);
    }

    private static void promise40WithPlan() {
        FrequencyOffice office = new FrequencyOffice();
        office.setRadii(0, 0, 200);
        office.license(0, 0, 9);
        office.license(9, 9, 9);
        office.change(1, 1);
        office.startTrial(0, 0, 9);
        Checks.due("40: the trial", 5, () -> office.channelOf(2));
        Checks.due("40: the other one gets a channel", 1, () -> office.complain(0, 1));
        channels("40: the least disturbance", office, 0, 4);
        Checks.due("40: without moves", 0, office::moveCount);
        office.change(1, 2);
        Checks.due("40: the one that is complained about", 1, () -> office.complain(1, 0));
        channels("40: the lowest one at which they do not conflict", office, 6, 2);
        promise40EndsTrials();
    }

    private static void promise40EndsTrials() {
        FrequencyOffice office = new FrequencyOffice();
        office.setRadii(0, 0, 200);
        office.license(0, 0, 9);
        office.license(9, 9, 9);
        office.change(1, 1);
        office.startTrial(0, 0, 9);
        office.change(0, 2);
        office.startTrial(0, 0, 9);
        Checks.due("40: the trials", 5, () -> office.channelOf(2));
        Checks.due("40: the trials", 6, () -> office.channelOf(3));
        Checks.due("40: onto a trial", 1, () -> office.complain(1, 0));
        channels("40: onto a trial", office, 5, 1);
        Checks.due("40: it is ended", false, () -> office.exists(2));
        Checks.due("40: the other one is not", true, () -> office.exists(3));
        Checks.due("40: one is ended", 1, office::endedTrials);
    }

    private static void promise40Held() {
        FrequencyOffice office = three();
        office.change(0, 1);
        Checks.due("40: the one that complains is not moved", 2, () -> office.complain(0, 1));
        channels("40: another one is moved", office, 1, 7, 4);
        Checks.due("40: one move", 1, office::moveCount);
        move("40: another one is moved", office, 0, 2, 7, 4);
        Checks.due("40: upheld", 4, () -> office.separation(1, 0));
    }

    private static void promise40NoPlan() {
        FrequencyOffice office = three();
        Checks.due("40: no conflict", 0, () -> office.complain(1, 0));
        Checks.refused("40: no channel 5 away from 4", UOE, () -> office.complain(1, 0));
        Checks.due("40: not upheld", 1, () -> office.complaintCount(1, 0));
        channels("40: as before", office, 0, 4, 7);
        Checks.due("40: the other way round there is one", 2, () -> office.complain(0, 1));
        channels("40: 5 apart", office, 0, 7, 3);
    }

    private static void promise40Refusals() {
        FrequencyOffice office = new FrequencyOffice();
        office.license(0, 0, 9);
        office.license(0, 39, 9);
        office.license(0, 40, 9);
        office.startTrial(0, 0, 9);
        Checks.refused("40: no such id", NSE, () -> office.complain(0, 4));
        Checks.refused("40: no such id", NSE, () -> office.complain(4, 0));
        Checks.refused("40: no such ids", NSE, () -> office.complain(4, 4));
        Checks.refused("40: no such id", NSE, () -> office.complain(3, -1));
        Checks.refused("40: itself", IAE, () -> office.complain(0, 0));
        Checks.refused("40: itself, on trial", IAE, () -> office.complain(3, 3));
        Checks.refused("40: the trial complains", ISE, () -> office.complain(3, 0));
        Checks.refused("40: about the trial", ISE, () -> office.complain(0, 3));
        Checks.refused("40: the base separation is 0", ISE, () -> office.complain(0, 2));
        Checks.due("40: the base separation is 1", 0, () -> office.complain(0, 1));
    }

    private static void promises41To44LastPlan() {
        FrequencyOffice office = Offices.crowded();
        noMove("no plan so far", office, 0);
        Checks.refused("41: no plan so far", NSE, office::moveCount);
        office.startTrial(0, 0, 9);
        Checks.refused("41: a trial is no plan", NSE, office::moveCount);
        office.license(0, 0, 100);
        Checks.due("41: no move", 0, office::moveCount);
        noMove("no move", office, 0);
        office.license(0, 0, 100);
        office.change(2, 5);
        office.license(0, 0, 100);
        Checks.due("41: one move", 1, office::moveCount);
        move("41", office, 0, 2, 5, 3);
        int[] bad = {1, 2, -1, Integer.MAX_VALUE, Integer.MIN_VALUE};
        for (int move : bad) {
            noMove("one move", office, move);
        }
        office.close(2);
        move("42: it does not exist any more", office, 0, 2, 5, 3);
        office.pass(99);
        office.pass(2);
        Checks.due("41: after all expired", 1, office::moveCount);
        office.license(0, 0, 1);
        Checks.due("41: the next plan", 0, office::moveCount);
        noMove("the next plan", office, 0);
    }

    private static void noMove(String what, FrequencyOffice office, int move) {
        Checks.refused("42: " + what + ", move " + move, NSE, () -> office.movedStation(move));
        Checks.refused("43: " + what + ", move " + move, NSE, () -> office.movedFrom(move));
        Checks.refused("44: " + what + ", move " + move, NSE, () -> office.movedTo(move));
    }

    private static void promises41To44TwoMoves() {
        FrequencyOffice office = two(2, 5);
        Checks.due("6: two moves", 2, () -> office.license(5, 5, 9));
        Checks.due("41: two moves", 2, office::moveCount);
        move("41", office, 0, 0, 2, 0);
        move("41", office, 1, 1, 5, 3);
        channels("41", office, 0, 3, 7);
        noMove("two moves", office, 2);
    }
}
