import java.util.NoSuchElementException;

/** Promises 25 to 33: separations, conflicts and disturbance. */
public final class SeparationsTest {
    private static final Class<?> IAE = IllegalArgumentException.class;
    private static final Class<?> NSE = NoSuchElementException.class;

    private SeparationsTest() {
    }

    public static void main(String[] args) {
        promises25And26Distances();
        promise26OtherRadii();
        promises27And28Complaints();
        promise29Margin();
        promises25To29Refusals();
        promise30ConflictsAt();
        promise31DisturbanceAt();
        promises30And31Refusals();
        promise32MeanDisturbance();
        promise33IsConsistent();
        Checks.end();
    }

    private static void promises25And26Distances() {
        int[][] rows = {
            {50, 50, 0, 3}, {59, 54, 97, 3}, {60, 50, 100, 2}, {56, 58, 100, 2}, {41, 50, 81, 3}, {40, 50, 100, 2},
            {50, 69, 361, 2}, {50, 70, 400, 1}, {62, 66, 400, 1}, {31, 50, 361, 2}, {50, 30, 400, 1},
            {89, 50, 1521, 1}, {90, 50, 1600, 0}, {74, 82, 1600, 0}, {50, 11, 1521, 1}, {50, 10, 1600, 0},
            {0, 0, 5000, 0}, {99, 99, 4802, 0},
        };
        FrequencyOffice office = new FrequencyOffice();
        office.license(50, 50, 365);
        for (int[] row : rows) {
            int id = office.license(row[0], row[1], 365);
            String point = row[0] + "," + row[1];
            Checks.due("25: distance of " + point, row[2], () -> office.squaredDistance(0, id));
            Checks.due("25: the other way round", row[2], () -> office.squaredDistance(id, 0));
            Checks.due("26: base separation of " + point, row[3], () -> office.baseSeparation(0, id));
            Checks.due("26: the other way round", row[3], () -> office.baseSeparation(id, 0));
            Checks.due("28: separation of " + point, row[3], () -> office.separation(0, id));
            Checks.due("27: no complaints", 0, () -> office.complaintCount(0, id));
            office.close(id);
        }
        FrequencyOffice corners = Offices.crowded();
        corners.license(0, 0, 9);
        corners.license(99, 99, 9);
        Checks.due("25: the largest distance", 19602, () -> corners.squaredDistance(1, 0));
        Checks.due("26: the largest radius reaches everywhere", 3, () -> corners.baseSeparation(1, 0));
    }

    private static void promise26OtherRadii() {
        FrequencyOffice none = Offices.empty();
        none.license(5, 5, 9);
        none.license(5, 5, 9);
        Checks.due("26: the radius 0 reaches nothing", 0, () -> none.baseSeparation(0, 1));
        FrequencyOffice middle = new FrequencyOffice();
        middle.setRadii(0, 5, 5);
        middle.license(5, 5, 9);
        middle.startTrial(5, 9, 9);
        middle.startTrial(5, 10, 9);
        Checks.due("26: middle", 2, () -> middle.baseSeparation(0, 1));
        Checks.due("26: neither middle nor far", 0, () -> middle.baseSeparation(0, 2));
        Checks.due("26: two trials", 2, () -> middle.baseSeparation(1, 2));
    }

    private static void promises27And28Complaints() {
        FrequencyOffice office = new FrequencyOffice();
        office.setRadii(0, 0, 200);
        office.license(0, 0, 9);
        office.license(9, 9, 9);
        office.license(5, 5, 9);
        office.complain(1, 0);
        Checks.due("27: one", 1, () -> office.complaintCount(0, 1));
        Checks.due("27: the other way round", 1, () -> office.complaintCount(1, 0));
        Checks.due("28: one more", 2, () -> office.separation(0, 1));
        office.complain(0, 1);
        Checks.due("27: two", 2, () -> office.complaintCount(1, 0));
        Checks.due("28: two more", 3, () -> office.separation(1, 0));
        Checks.due("26: the base is the same", 1, () -> office.baseSeparation(1, 0));
        Checks.due("27: others are not concerned", 0, () -> office.complaintCount(1, 2));
        Checks.due("28: others are not concerned", 1, () -> office.separation(0, 2));
        complaintsOfClosed(office);
    }

    private static void complaintsOfClosed(FrequencyOffice office) {
        office.complain(1, 2);
        office.close(0);
        Checks.due("27: between those that are left", 1, () -> office.complaintCount(2, 1));
        int id = office.license(0, 0, 9);
        Checks.due("27: none with the new one", 0, () -> office.complaintCount(1, id));
        Checks.due("27: none with the new one", 0, () -> office.complaintCount(id, 2));
        office.pass(9);
        office.license(0, 0, 9);
        office.license(0, 0, 9);
        Checks.due("27: none after all expired", 0, () -> office.complaintCount(id + 1, id + 2));
    }

    private static void promise29Margin() {
        FrequencyOffice office = Offices.crowded();
        office.license(0, 0, 9);
        office.license(0, 0, 9);
        office.startTrial(0, 0, 9);
        Checks.due("29: 4 minus 3", 1, () -> office.margin(0, 1));
        Checks.due("29: the other way round", 1, () -> office.margin(1, 0));
        Checks.due("29: 7 minus 4 minus 3", 0, () -> office.margin(2, 1));
        office.complain(0, 1);
        Checks.due("29: complaints count", 0, () -> office.margin(0, 1));
        FrequencyOffice apart = Offices.empty();
        apart.license(0, 0, 9);
        apart.license(0, 0, 9);
        Checks.due("29: nothing", 0, () -> apart.margin(0, 1));
        apart.change(1, 7);
        Checks.due("29: all channels", 7, () -> apart.margin(0, 1));
    }

    private static void promises25To29Refusals() {
        FrequencyOffice office = new FrequencyOffice();
        office.license(0, 0, 9);
        office.license(50, 50, 9);
        refusePairs(office, 0, 2, NSE);
        refusePairs(office, 2, 0, NSE);
        refusePairs(office, -1, 1, NSE);
        refusePairs(office, 1, Integer.MIN_VALUE, NSE);
        refusePairs(office, 2, 2, NSE);
        refusePairs(office, -1, -1, NSE);
        refusePairs(office, 0, 0, IAE);
        refusePairs(office, 1, 1, IAE);
    }

    private static void refusePairs(FrequencyOffice office, int id, int other, Class<?> want) {
        String pair = id + " and " + other;
        Checks.refused("25: " + pair, want, () -> office.squaredDistance(id, other));
        Checks.refused("26: " + pair, want, () -> office.baseSeparation(id, other));
        Checks.refused("27: " + pair, want, () -> office.complaintCount(id, other));
        Checks.refused("28: " + pair, want, () -> office.separation(id, other));
        Checks.refused("29: " + pair, want, () -> office.margin(id, other));
    }

    private static void promise30ConflictsAt() {
        FrequencyOffice office = new FrequencyOffice();
        Checks.due("30: no station", 0, () -> office.conflictsAt(50, 50, 0));
        office.license(50, 50, 9);
        office.license(50, 89, 9);
        office.complain(0, 1);
        office.startTrial(50, 50, 9);
        Checks.due("30: a station far off", 4, () -> office.channelOf(1));
        Checks.due("30: the trial", 7, () -> office.channelOf(2));
        int[] want = {1, 1, 1, 0, 1, 1, 1, 1};
        for (int c = 0; c < 8; c++) {
            int channel = c;
            Checks.due("30: channel " + c, want[c], () -> office.conflictsAt(50, 50, channel));
        }
        Checks.due("30: out of reach", 0, () -> office.conflictsAt(0, 0, 0));
        Checks.due("30: at the far radius", 0, () -> office.conflictsAt(90, 50, 0));
        Checks.due("30: within the far radius", 1, () -> office.conflictsAt(89, 50, 0));
        Checks.due("30: the separation 1", 0, () -> office.conflictsAt(89, 50, 1));
        Checks.due("30: the separation 2", 1, () -> office.conflictsAt(69, 50, 1));
    }

    private static void promise31DisturbanceAt() {
        FrequencyOffice office = new FrequencyOffice();
        Checks.due("31: no station", 0, () -> office.disturbanceAt(50, 50, 0));
        office.license(50, 50, 9);
        int[] want = {4, 3, 2, 1, 0, 0, 0, 0};
        for (int c = 0; c < 8; c++) {
            int channel = c;
            Checks.due("31: channel " + c, want[c], () -> office.disturbanceAt(50, 50, channel));
        }
        Checks.due("31: within the far radius", 4, () -> office.disturbanceAt(89, 50, 0));
        Checks.due("31: at the far radius", 0, () -> office.disturbanceAt(90, 50, 0));
        office.startTrial(50, 50, 9);
        Checks.due("31: a trial does not disturb", 0, () -> office.disturbanceAt(50, 50, 4));
        office.confirm(1, 9);
        Checks.due("31: a sum", 2 + 2, () -> office.disturbanceAt(50, 50, 2));
        Checks.due("31: the upper channels", 4 - 3, () -> office.disturbanceAt(50, 50, 7));
    }

    private static void promises30And31Refusals() {
        FrequencyOffice office = new FrequencyOffice();
        int[][] bad = {
            {-1, 0, 0}, {100, 0, 0}, {0, -1, 0}, {0, 100, 0}, {0, 0, -1}, {0, 0, 8},
            {Integer.MIN_VALUE, 0, 0}, {0, Integer.MAX_VALUE, 0}, {0, 0, Integer.MAX_VALUE},
        };
        for (int[] a : bad) {
            String at = a[0] + " " + a[1] + " " + a[2];
            Checks.refused("30: " + at, IAE, () -> office.conflictsAt(a[0], a[1], a[2]));
            Checks.refused("31: " + at, IAE, () -> office.disturbanceAt(a[0], a[1], a[2]));
        }
        Checks.due("30: the corner", 0, () -> office.conflictsAt(99, 99, 7));
        Checks.due("31: the corner", 0, () -> office.disturbanceAt(0, 0, 7));
    }

    private static void promise32MeanDisturbance() {
        FrequencyOffice office = new FrequencyOffice();
        office.setRadii(0, 0, 200);
        Checks.refused("32: no station", ArithmeticException.class, office::meanDisturbance);
        office.startTrial(0, 0, 9);
        Checks.refused("32: no licensed station", ArithmeticException.class, office::meanDisturbance);
        office.close(0);
        office.license(0, 0, 9);
        Checks.due("32: one", 0.0f, office::meanDisturbance);
        office.license(0, 0, 9);
        Checks.due("32: channels 0 and 4", 0.0f, office::meanDisturbance);
        office.license(0, 0, 9);
        Checks.due("32: channels 0, 4 and 7", 2.0f / 3.0f, office::meanDisturbance);
        office.startTrial(0, 0, 9);
        Checks.due("32: trials do not matter", 2.0f / 3.0f, office::meanDisturbance);
        office.change(2, 1);
        Checks.due("32: channels 0, 1 and 7", 6.0f / 3.0f, office::meanDisturbance);
    }

    private static void promise33IsConsistent() {
        FrequencyOffice office = Offices.crowded();
        office.license(0, 0, 2);
        office.startTrial(0, 0, 1);
        office.startTrial(0, 0, 3);
        Checks.due("33: with trials", true, office::isConsistent);
        office.license(0, 0, 9);
        Checks.due("33: after a plan", true, office::isConsistent);
        office.pass(1);
        Checks.due("33: after a day", true, office::isConsistent);
        office.complain(0, 3);
        Checks.due("33: after a complaint", true, office::isConsistent);
        office.pass(99);
        Checks.due("33: without stations", true, office::isConsistent);
    }
}
