/** The bounds that the document's terms name on the map, days, stations, separations, conflicts and disturbance. */
public final class TermsTest {
    private static final Class<?> IAE = IllegalArgumentException.class;
    private static final Class<?> ISE = IllegalStateException.class;
    private static final Class<?> UOE = UnsupportedOperationException.class;

    private interface PointCall {
        Object at(FrequencyOffice office, int x, int y);
    }

    private TermsTest() {
    }

    public static void main(String[] args) {
        anObjectIsUsedFor512Calls();
        coordinatesAreFrom0To99();
        squaredDistances();
        daysAreFrom0To999();
        channelsAreFrom0To7();
        idsAreGivenInARow();
        idsAreNotUsedAgain();
        atMostSevenStations();
        roomIsMadeByEachWayOut();
        severalStationsAtOnePoint();
        radiiAtFirst();
        baseSeparationAtTheNearRadius();
        baseSeparationAtTheMiddleRadius();
        baseSeparationAtTheFarRadius();
        baseSeparationWithRadiusZero();
        baseSeparationWithEqualRadii();
        baseSeparationAcrossTheMap();
        separationCountsComplaints();
        complaintsStayAsLongAsBothExist();
        complaintsEndWithEitherStation();
        complaintsOfExpiredAndUndone();
        differenceIsAbsolute();
        conflictIsLessThanTheSeparation();
        newStationsHaveNoComplaints();
        disturbanceEndsAtTheFarRadius();
        disturbanceIsNeverNegative();
        disturbanceIsOfLicensedStations();
        disturbanceLeavesTheStationItselfOut();
        Checks.end();
    }

    /** "An object is used for at most 512 calls": the last of them still has to be answered. */
    private static void anObjectIsUsedFor512Calls() {
        FrequencyOffice office = Offices.empty();
        for (int i = 0; i < 254; i++) {
            int id = i;
            Checks.due("512 calls: license", id, () -> office.license(99, 99, 365));
            Checks.due("512 calls: close", 0, () -> office.close(id));
        }
        Checks.due("512 calls: the 510th", 254, () -> office.license(99, 99, 365));
        Checks.due("512 calls: the 511th", 18, () -> office.writeStation(254) + 1);
        Checks.due("512 calls: the 512th", '4', () -> office.lineAt(2));
    }

    /** "A point has an x-coordinate and a y-coordinate, each from 0 to 99." */
    private static void coordinatesAreFrom0To99() {
        coordinates("6", (office, x, y) -> office.license(x, y, 9));
        coordinates("7", (office, x, y) -> office.startTrial(x, y, 9));
        coordinates("30", (office, x, y) -> office.conflictsAt(x, y, 0));
        coordinates("31", (office, x, y) -> office.disturbanceAt(x, y, 0));
        coordinates("35", (office, x, y) -> office.movesFor(x, y));
        coordinates("36", (office, x, y) -> office.movesForByQueue(x, y));
        coordinates("34", (office, x, y) -> office.openChannels(x, y) - 255);
    }

    private static void coordinates(String promise, PointCall call) {
        for (int x : new int[] {0, 1, 98, 99}) {
            for (int y : new int[] {0, 1, 98, 99}) {
                Checks.due(promise + ": " + x + "," + y, 0, () -> call.at(new FrequencyOffice(), x, y));
            }
        }
        for (int out : new int[] {-1, 100, Integer.MIN_VALUE, Integer.MAX_VALUE}) {
            for (int in : new int[] {0, 99}) {
                Checks.refused(promise + ": x " + out, IAE, () -> call.at(new FrequencyOffice(), out, in));
                Checks.refused(promise + ": y " + out, IAE, () -> call.at(new FrequencyOffice(), in, out));
            }
        }
    }

    /** "The squared distance of two points is the square of the difference of their x-coordinates plus ..." */
    private static void squaredDistances() {
        int[][] rows = {
            {0, 0, 99, 99, 19602}, {99, 0, 0, 99, 19602}, {0, 0, 99, 0, 9801}, {0, 99, 0, 0, 9801},
            {50, 50, 50, 50, 0}, {50, 50, 51, 50, 1}, {50, 50, 50, 49, 1}, {50, 50, 49, 51, 2}, {1, 2, 4, 6, 25},
            {4, 2, 1, 6, 25},
        };
        for (int[] r : rows) {
            FrequencyOffice office = Offices.empty();
            office.license(r[0], r[1], 9);
            office.startTrial(r[2], r[3], 9);
            String what = "25: " + r[0] + "," + r[1] + " and " + r[2] + "," + r[3];
            Checks.due(what, r[4], () -> office.squaredDistance(0, 1));
            Checks.due(what + " the other way round", r[4], () -> office.squaredDistance(1, 0));
        }
    }

    /** "Days are numbered from 0; the current day is 0 at first and at most 999." */
    private static void daysAreFrom0To999() {
        Checks.due("12: the first day", 0, () -> new FrequencyOffice().today());
        FrequencyOffice office = Offices.onDay(998);
        Checks.refused("11: day 1000", ISE, () -> office.pass(2));
        Checks.due("12: day 998", 998, office::today);
        Checks.due("11: to day 999", 0, () -> office.pass(1));
        Checks.due("12: day 999", 999, office::today);
        Checks.refused("11: day 1000", ISE, () -> office.pass(1));
        Checks.due("12: still day 999", 999, office::today);
        FrequencyOffice before = Offices.onDay(900);
        Checks.due("11: 99 days to day 999", 0, () -> before.pass(99));
        Checks.due("12: day 999", 999, before::today);
        FrequencyOffice after = Offices.onDay(901);
        Checks.refused("11: 99 days to day 1000", ISE, () -> after.pass(99));
        Checks.due("11: 98 days to day 999", 0, () -> after.pass(98));
    }

    /** "A station has an id, a point, a channel from 0 to 7": no plan and no trial goes beyond these. */
    private static void channelsAreFrom0To7() {
        FrequencyOffice office = Offices.crowded();
        office.license(0, 0, 9);
        office.license(0, 0, 9);
        Checks.due("34: the last one alone", 1 << 7, () -> office.openChannels(0, 0));
        office.license(0, 0, 9);
        Checks.due("20: the last one", 7, () -> office.channelOf(2));
        Checks.due("34: none above", 0, () -> office.openChannels(0, 0));
        Checks.refused("6: none above", UOE, () -> office.license(0, 0, 9));
        Checks.refused("7: none above", UOE, () -> office.startTrial(0, 0, 9));
        office.change(2, 6);
        Checks.due("34: 9 is none beside 6", 0, () -> office.openChannels(0, 0));
        FrequencyOffice one = new FrequencyOffice();
        one.license(0, 0, 9);
        Checks.refused("39: channel 8", IAE, () -> one.change(0, 8));
        Checks.refused("39: channel -1", IAE, () -> one.change(0, -1));
        Checks.due("39: channel 7", 0, () -> one.change(0, 7));
        Checks.due("20: channel 7", 7, () -> one.channelOf(0));
        Checks.due("39: channel 0", 0, () -> one.change(0, 0));
        Checks.due("20: channel 0", 0, () -> one.channelOf(0));
    }

    /** "The first station has the id 0, and every further one has the id of the station before it plus 1" */
    private static void idsAreGivenInARow() {
        FrequencyOffice office = Offices.empty();
        Checks.due("6: the first id", 0, () -> office.license(0, 0, 9));
        Checks.due("7: the second id", 1, () -> office.startTrial(0, 0, 9));
        Checks.due("7: the third id", 2, () -> office.startTrial(0, 0, 9));
        Checks.due("6: the fourth id", 3, () -> office.license(0, 0, 9));
        Checks.refused("6: refused", IAE, () -> office.license(0, 0, 0));
        Checks.refused("7: refused", IAE, () -> office.startTrial(0, 0, 0));
        Checks.due("6: the fifth id", 4, () -> office.license(0, 0, 9));
        Checks.due("7: a trial can be the first", 0, () -> new FrequencyOffice().startTrial(0, 0, 9));
    }

    /** "ids are not used again": not after a close, an expiry or an ended trial, not even that of the last station. */
    private static void idsAreNotUsedAgain() {
        FrequencyOffice office = Offices.crowded();
        office.license(0, 0, 9);
        office.close(0);
        Checks.due("6: after a close", 1, () -> office.license(0, 0, 1));
        office.pass(1);
        Checks.due("7: after an expiry", 2, () -> office.startTrial(0, 0, 9));
        Checks.due("6: another one", 3, () -> office.license(0, 0, 9));
        Checks.due("15: it ended the trial", false, () -> office.exists(2));
        office.close(3);
        Checks.due("7: after an ended trial and a close", 4, () -> office.startTrial(0, 0, 9));
    }

    /** "At most 7 stations exist at the same time." */
    private static void atMostSevenStations() {
        FrequencyOffice office = Offices.empty();
        for (int i = 0; i < 6; i++) {
            office.startTrial(0, 0, 9);
        }
        Checks.due("13: six", 6, office::stationCount);
        Checks.due("6: the seventh one", 6, () -> office.license(0, 0, 9));
        Checks.due("13: seven", 7, office::stationCount);
        Checks.refused("6: an eighth one", ISE, () -> office.license(0, 0, 9));
        Checks.refused("7: an eighth one", ISE, () -> office.startTrial(0, 0, 9));
        Checks.due("13: still seven", 7, office::stationCount);
        FrequencyOffice full = Offices.full();
        Checks.due("14: seven licensed ones", 7, full::licensedCount);
        Checks.refused("6: an eighth licensed one", ISE, () -> full.license(0, 0, 9));
        Checks.refused("7: a trial beside seven licensed ones", ISE, () -> full.startTrial(0, 0, 9));
    }

    /** The other side of "at most 7": once there are six again, by whatever way, another one is taken. */
    private static void roomIsMadeByEachWayOut() {
        FrequencyOffice closed = Offices.full();
        closed.close(6);
        Checks.due("6: after a close", 7, () -> closed.license(0, 0, 9));
        Checks.refused("6: seven again", ISE, () -> closed.license(0, 0, 9));
        FrequencyOffice expired = Offices.full();
        expired.close(0);
        expired.license(0, 0, 1);
        expired.pass(1);
        Checks.due("7: after an expiry", 8, () -> expired.startTrial(0, 0, 9));
        Checks.refused("7: seven again", ISE, () -> expired.startTrial(0, 0, 9));
        FrequencyOffice undone = Offices.full();
        undone.undo();
        Checks.due("6: after an undo", 6, () -> undone.license(0, 0, 9));
        FrequencyOffice ended = new FrequencyOffice();
        ended.setRadii(1, 1, 1);
        for (int i = 0; i < 6; i++) {
            ended.startTrial(2 * i, 0, 9);
        }
        ended.license(99, 0, 9);
        Checks.refused("6: seven, even if the plan would end a trial", ISE, () -> ended.license(0, 0, 9));
        ended.close(6);
        ended.license(0, 0, 9);
        Checks.due("24: a trial ended", 1, ended::endedTrials);
        Checks.due("6: after an ended trial", 8, () -> ended.license(99, 0, 9));
    }

    /** "Several stations can be at the same point." */
    private static void severalStationsAtOnePoint() {
        Checks.due("13: seven at one point", 7, () -> Offices.full().stationCount());
        FrequencyOffice office = new FrequencyOffice();
        office.license(0, 0, 9);
        Checks.due("6: a second one", 1, () -> office.license(0, 0, 9));
        Checks.due("7: a third one", 2, () -> office.startTrial(0, 0, 9));
        Checks.due("26: of separation 3", 3, () -> office.baseSeparation(0, 2));
    }

    /** "There are three radii, the near, the middle and the far one; at first they are 10, 20 and 40." */
    private static void radiiAtFirst() {
        FrequencyOffice office = new FrequencyOffice();
        Checks.due("3: near", 10, office::nearRadius);
        Checks.due("4: middle", 20, office::middleRadius);
        Checks.due("5: far", 40, office::farRadius);
        Checks.due("2: the previous far radius", 40, () -> office.setRadii(1, 1, 1));
    }

    /** The base separation from a station at 50,50, told by two stations and by what a new one may have. */
    private static void base(String what, FrequencyOffice office, int x, int y, int base) {
        office.license(50, 50, 9);
        int open = office.openChannels(x, y);
        Checks.due(what + ": channels of a new one", 255 & 255 << base, () -> open);
        for (int c = 0; c < 8; c++) {
            int channel = c;
            Checks.due(what + ": conflicts on channel " + c, c < base ? 1 : 0, () -> office.conflictsAt(x, y, channel));
        }
        int id = office.license(x, y, 9);
        Checks.due(what + ": base separation", base, () -> office.baseSeparation(0, id));
        Checks.due(what + ": the other way round", base, () -> office.baseSeparation(id, 0));
        Checks.due(what + ": separation", base, () -> office.separation(id, 0));
    }

    private static void bases(int[][] rows) {
        for (int[] r : rows) {
            base("26: at " + r[0] + "," + r[1], new FrequencyOffice(), r[0], r[1], r[2]);
        }
    }

    /** "The base separation of two points is 3 if their squared distance is less than the square of the near radius" */
    private static void baseSeparationAtTheNearRadius() {
        bases(new int[][] {
            {59, 50, 3}, {59, 54, 3}, {57, 57, 3}, {41, 54, 3}, {60, 50, 2}, {50, 40, 2}, {56, 42, 2}, {60, 51, 2},
            {61, 50, 2},
        });
    }

    /** "otherwise 2 if it is less than the square of the middle radius" */
    private static void baseSeparationAtTheMiddleRadius() {
        bases(new int[][] {
            {69, 50, 2}, {31, 50, 2}, {69, 56, 2}, {56, 31, 2}, {70, 50, 1}, {50, 30, 1}, {62, 66, 1}, {70, 51, 1},
            {50, 71, 1},
        });
    }

    /** "otherwise 1 if it is less than the square of the far radius, and otherwise 0" */
    private static void baseSeparationAtTheFarRadius() {
        bases(new int[][] {
            {89, 50, 1}, {50, 11, 1}, {84, 71, 1}, {71, 16, 1}, {90, 50, 0}, {50, 10, 0}, {74, 82, 0}, {90, 51, 0},
            {91, 50, 0}, {0, 0, 0}, {99, 99, 0},
        });
    }

    /** The squared distance 0 is not less than the square of the radius 0, but less than that of 1. */
    private static void baseSeparationWithRadiusZero() {
        base("26: all 0, one point", Offices.withRadii(0, 0, 0), 50, 50, 0);
        base("26: far 1, one point", Offices.withRadii(0, 0, 1), 50, 50, 1);
        base("26: far 1, the next point", Offices.withRadii(0, 0, 1), 51, 50, 0);
        base("26: far 2, the next point", Offices.withRadii(0, 0, 2), 51, 50, 1);
        base("26: middle 1, one point", Offices.withRadii(0, 1, 1), 50, 50, 2);
        base("26: middle 1, the next point", Offices.withRadii(0, 1, 1), 50, 51, 0);
        base("26: near 1, one point", Offices.withRadii(1, 1, 1), 50, 50, 3);
        base("26: near 1, the next point", Offices.withRadii(1, 1, 1), 50, 49, 0);
    }

    /** With equal radii, the separations between them are left out. */
    private static void baseSeparationWithEqualRadii() {
        base("26: near and middle 10, inside", Offices.withRadii(10, 10, 40), 59, 50, 3);
        base("26: near and middle 10, at it", Offices.withRadii(10, 10, 40), 60, 50, 1);
        base("26: middle and far 20, inside", Offices.withRadii(10, 20, 20), 69, 50, 2);
        base("26: middle and far 20, at it", Offices.withRadii(10, 20, 20), 70, 50, 0);
        base("26: all 20, inside", Offices.withRadii(20, 20, 20), 69, 50, 3);
        base("26: all 20, at it", Offices.withRadii(20, 20, 20), 70, 50, 0);
    }

    /** The longest way on the map is a little less than 141. */
    private static void baseSeparationAcrossTheMap() {
        int[][] rows = {{0, 0, 140, 0}, {0, 0, 141, 1}, {0, 0, 200, 1}, {0, 141, 200, 2}, {141, 141, 141, 3}};
        for (int[] r : rows) {
            FrequencyOffice office = Offices.withRadii(r[0], r[1], r[2]);
            office.license(0, 0, 9);
            office.license(99, 99, 9);
            Checks.due("26: radii " + r[0] + " " + r[1] + " " + r[2], r[3], () -> office.baseSeparation(0, 1));
        }
    }

    /** "The separation of two stations is the base separation of their points plus the number of complaints ..." */
    private static void separationCountsComplaints() {
        int[][] rows = {{0, 0, 200, 1}, {0, 200, 200, 2}, {200, 200, 200, 3}};
        for (int[] r : rows) {
            FrequencyOffice office = Offices.withRadii(r[0], r[1], r[2]);
            office.license(0, 0, 9);
            office.license(9, 9, 9);
            for (int upheld = 0; upheld <= 2; upheld++) {
                int due = upheld;
                Checks.due("27: complaints", due, () -> office.complaintCount(0, 1));
                Checks.due("26: the base stays", r[3], () -> office.baseSeparation(0, 1));
                Checks.due("28: separation", r[3] + due, () -> office.separation(0, 1));
                Checks.due("28: separation the other way round", r[3] + due, () -> office.separation(1, 0));
                Checks.due("29: consistent", true, () -> office.margin(0, 1) >= 0);
                if (upheld < 2) {
                    office.complain(0, 1);
                }
            }
        }
    }

    private static FrequencyOffice fourWithComplaints() {
        FrequencyOffice office = Offices.oneApart();
        for (int i = 0; i < 4; i++) {
            office.license(i, i, 9 + i);
        }
        office.complain(0, 1);
        office.complain(2, 3);
        office.complain(3, 2);
        office.complain(1, 3);
        return office;
    }

    private static void complaintsAre(String what, FrequencyOffice office, int id, int other, int number) {
        Checks.due("27: " + what, number, () -> office.complaintCount(id, other));
        Checks.due("27: " + what + ", the other way round", number, () -> office.complaintCount(other, id));
        Checks.due("28: " + what, 1 + number, () -> office.separation(id, other));
    }

    /** "A complaint between two stations stays upheld as long as both exist." */
    private static void complaintsStayAsLongAsBothExist() {
        FrequencyOffice office = fourWithComplaints();
        office.pass(1);
        office.renew(1, 100);
        office.renew(3, 100);
        office.change(1, office.channelOf(1) == 0 ? 1 : 0);
        office.startTrial(0, 0, 9);
        complaintsAre("after other calls", office, 0, 1, 1);
        complaintsAre("after other calls", office, 2, 3, 2);
        complaintsAre("after other calls", office, 1, 3, 1);
        complaintsAre("none between others", office, 0, 2, 0);
        complaintsAre("none with a trial", office, 4, 3, 0);
        office.close(0);
        complaintsAre("a station before both is closed", office, 2, 3, 2);
        complaintsAre("a station before both is closed", office, 1, 3, 1);
        complaintsAre("none between others", office, 1, 2, 0);
        office.close(2);
        complaintsAre("a station between both is closed", office, 1, 3, 1);
        office.close(4);
        complaintsAre("a station behind both is closed", office, 1, 3, 1);
    }

    /** The other side of "as long as both exist": a new station at the old place starts without complaints. */
    private static void complaintsEndWithEitherStation() {
        for (int closed : new int[] {2, 3}) {
            FrequencyOffice office = fourWithComplaints();
            office.close(closed);
            int id = office.license(closed, closed, 9);
            int left = 5 - closed;
            complaintsAre("a new station in the place of " + closed, office, id, left, 0);
            complaintsAre("a new station in the place of " + closed, office, id, 1, 0);
            complaintsAre("those of others", office, 0, 1, 1);
        }
    }

    /** An expired station exists no more; an undone expiry has never been. */
    private static void complaintsOfExpiredAndUndone() {
        FrequencyOffice office = fourWithComplaints();
        office.pass(9);
        Checks.due("11: the first one expired", false, () -> office.exists(0));
        complaintsAre("of those that are left", office, 2, 3, 2);
        complaintsAre("of those that are left", office, 1, 3, 1);
        int id = office.license(0, 0, 9);
        complaintsAre("none with the new one", office, id, 1, 0);
        office.undo();
        office.undo();
        complaintsAre("undone", office, 0, 1, 1);
        complaintsAre("undone", office, 2, 3, 2);
    }

    /** "The difference of two channels is the absolute value of one minus the other." */
    private static void differenceIsAbsolute() {
        FrequencyOffice office = Offices.empty();
        office.license(0, 0, 9);
        office.license(0, 0, 9);
        for (int channel = 1; channel < 8; channel++) {
            int difference = channel;
            office.change(0, channel);
            Checks.due("29: above", difference, () -> office.margin(0, 1));
            Checks.due("29: below", difference, () -> office.margin(1, 0));
        }
        office.change(1, 7);
        Checks.due("29: both on channel 7", 0, () -> office.margin(0, 1));
        FrequencyOffice far = Offices.withRadii(0, 0, 200);
        far.license(0, 0, 9);
        far.change(0, 4);
        int[] want = {0, 1, 2, 3, 4, 3, 2, 1};
        for (int c = 0; c < 8; c++) {
            int channel = c;
            Checks.due("31: on both sides", want[c], () -> far.disturbanceAt(9, 9, channel));
        }
    }

    /** "Two stations conflict if the difference of their channels is less than their separation." */
    private static void conflictIsLessThanTheSeparation() {
        for (int base = 0; base <= 3; base++) {
            FrequencyOffice office = Offices.withRadii(base >= 3 ? 200 : 0, base >= 2 ? 200 : 0, base >= 1 ? 200 : 0);
            office.license(50, 50, 9);
            office.change(0, 3);
            for (int c = 0; c < 8; c++) {
                int channel = c;
                boolean conflict = Math.abs(c - 3) < base;
                String what = "separation " + base + ", channels 3 and " + c;
                Checks.due("30: " + what, conflict ? 1 : 0, () -> office.conflictsAt(50, 50, channel));
                Checks.due("34: " + what, conflict ? 0 : 1, () -> office.openChannels(50, 50) >> channel & 1);
            }
        }
    }

    /** "For a new station, no complaints are upheld." */
    private static void newStationsHaveNoComplaints() {
        FrequencyOffice office = Offices.oneApart();
        office.license(0, 0, 9);
        office.license(0, 0, 9);
        office.complain(0, 1);
        office.complain(1, 0);
        Checks.due("20: the channels", 4, () -> office.channelOf(1) - office.channelOf(0));
        Checks.due("34: all but 0 and 4", 0b11101110, () -> office.openChannels(0, 0));
        Checks.due("30: beside channel 0", 0, () -> office.conflictsAt(0, 0, 1));
        Checks.due("30: beside channel 4", 0, () -> office.conflictsAt(0, 0, 3));
        Checks.due("30: on channel 4", 1, () -> office.conflictsAt(0, 0, 4));
        Checks.due("35: no move", 0, () -> office.movesFor(0, 0));
        office.license(0, 0, 9);
        complaintsAre("of the new one", office, 2, 0, 0);
        complaintsAre("of the new one", office, 2, 1, 0);
        office.startTrial(0, 0, 9);
        complaintsAre("of the trial", office, 3, 0, 0);
    }

    /** "... the licensed stations whose squared distance from the point is less than the square of the far radius." */
    private static void disturbanceEndsAtTheFarRadius() {
        FrequencyOffice office = new FrequencyOffice();
        office.license(50, 50, 9);
        int[][] rows = {
            {50, 50, 4}, {89, 50, 4}, {84, 71, 4}, {50, 11, 4}, {90, 50, 0}, {74, 82, 0}, {50, 10, 0}, {91, 50, 0},
            {90, 51, 0},
        };
        for (int[] r : rows) {
            Checks.due("31: at " + r[0] + "," + r[1], r[2], () -> office.disturbanceAt(r[0], r[1], 0));
        }
        FrequencyOffice none = Offices.full();
        Checks.due("31: the radius 0 reaches not even the point itself", 0, () -> none.disturbanceAt(50, 50, 0));
        Checks.due("32: nor do they disturb each other", 0.0f, none::meanDisturbance);
        FrequencyOffice one = Offices.withRadii(0, 0, 1);
        one.license(50, 50, 9);
        Checks.due("31: the radius 1 reaches it", 4, () -> one.disturbanceAt(50, 50, 0));
        Checks.due("31: and no further", 0, () -> one.disturbanceAt(50, 51, 0));
    }

    /** "Such a station adds 4 minus the difference of the two channels if this is greater than 0." */
    private static void disturbanceIsNeverNegative() {
        FrequencyOffice office = Offices.oneApart();
        office.license(0, 0, 9);
        int[] want = {4, 3, 2, 1, 0, 0, 0, 0};
        for (int c = 0; c < 8; c++) {
            int channel = c;
            Checks.due("31: difference " + c, want[c], () -> office.disturbanceAt(0, 0, channel));
        }
        office.license(0, 0, 9);
        office.change(1, 7);
        int[] both = {4, 3, 2, 1, 1, 2, 3, 4};
        for (int c = 0; c < 8; c++) {
            int channel = c;
            Checks.due("31: the far one takes nothing off, channel " + c, both[c],
                    () -> office.disturbanceAt(0, 0, channel));
        }
        Checks.due("32: 7 apart", 0.0f, office::meanDisturbance);
        office.change(1, 4);
        Checks.due("32: 4 apart", 0.0f, office::meanDisturbance);
        office.change(1, 3);
        Checks.due("32: 3 apart", 1.0f, office::meanDisturbance);
    }

    /** "The disturbance ... is a sum over the licensed stations" */
    private static void disturbanceIsOfLicensedStations() {
        FrequencyOffice office = Offices.oneApart();
        office.startTrial(0, 0, 9);
        Checks.due("31: a trial", 0, () -> office.disturbanceAt(0, 0, 0));
        office.confirm(0, 9);
        Checks.due("31: once it is licensed", 4, () -> office.disturbanceAt(0, 0, 0));
        office.startTrial(0, 0, 9);
        Checks.due("31: a trial beside it", 4, () -> office.disturbanceAt(0, 0, 0));
        Checks.due("32: the trial does not disturb, nor is it counted", 0.0f, office::meanDisturbance);
        office.close(0);
        Checks.due("31: closed", 0, () -> office.disturbanceAt(0, 0, 0));
    }

    /** "The disturbance of a station, at its point and its channel, does not include the station itself." */
    private static void disturbanceLeavesTheStationItselfOut() {
        FrequencyOffice office = Offices.oneApart();
        office.license(0, 0, 9);
        Checks.due("32: alone", 0.0f, office::meanDisturbance);
        Checks.due("31: for another one it counts", 4, () -> office.disturbanceAt(0, 0, 0));
        office.license(0, 0, 9);
        office.change(1, 1);
        Checks.due("32: a station at the same point counts", 3.0f, office::meanDisturbance);
        office.license(0, 0, 9);
        office.change(2, 2);
        Checks.due("32: 3 + 2, 3 + 3 and 3 + 2", 16.0f / 3.0f, office::meanDisturbance);
    }
}
