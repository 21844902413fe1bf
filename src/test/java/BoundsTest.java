import java.util.NoSuchElementException;

/** The bounds that single promises name: at the bound, just inside it and just outside it. */
public final class BoundsTest {
    private static final Class<?> IAE = IllegalArgumentException.class;
    private static final Class<?> ISE = IllegalStateException.class;
    private static final Class<?> UOE = UnsupportedOperationException.class;
    private static final Class<?> NSE = NoSuchElementException.class;
    private static final Class<?> IOE = IndexOutOfBoundsException.class;

    private interface PositionCall {
        Object at(FrequencyOffice office, int position);
    }

    private BoundsTest() {
    }

    public static void main(String[] args) {
        promise2Near();
        promise2Middle();
        promise2Far();
        promise2AStationExists();
        promise6Days();
        promise7Days();
        promise7NoConflictWithAnyStation();
        promise7LeastDisturbance();
        promise7TheLowestOfSeveral();
        promise7NoStationIsMoved();
        promise8Days();
        promise8FromTheCurrentDay();
        promise9Days();
        promise9At365DaysFromToday();
        promise10TheNumberLeft();
        promise11Days();
        promise11TheDayOfExpiry();
        promise11TheNumberOfExpired();
        promise15AnyNumber();
        promises16And17Positions();
        promise17TheSameDay();
        promise27AtMostTwo();
        promise29Margins();
        promise30NumberOfStations();
        promise31SumOfStations();
        promise32Float();
        promise34Bits();
        promises35To39Channels();
        promise40NumberOfStations();
        promises45And46WithoutLicensedStations();
        promises45And46FromOneToEight();
        promises45And46OfUnequalStations();
        promises45And46OnTheirOwn();
        promise46ChannelsAbove7();
        promise47FromOneToEight();
        promise48Forms();
        promise49Index();
        Checks.end();
    }

    private static void radii(FrequencyOffice office, int near, int middle, int far) {
        int previous = office.farRadius();
        String what = near + " " + middle + " " + far;
        Checks.due("2: the far radius before " + what, previous, () -> office.setRadii(near, middle, far));
        Checks.due("3: near of " + what, near, office::nearRadius);
        Checks.due("4: middle of " + what, middle, office::middleRadius);
        Checks.due("5: far of " + what, far, office::farRadius);
    }

    private static void noRadii(FrequencyOffice office, int near, int middle, int far) {
        String before = Look.at(office);
        String what = near + " " + middle + " " + far;
        Checks.refused("2: " + what, IAE, () -> office.setRadii(near, middle, far));
        Checks.same("2: " + what, before, Look.at(office));
    }

    /** "the near radius, from 0", and at most the middle one. */
    private static void promise2Near() {
        FrequencyOffice office = new FrequencyOffice();
        noRadii(office, -1, 20, 40);
        noRadii(office, Integer.MIN_VALUE, 20, 40);
        radii(office, 0, 20, 40);
        radii(office, 1, 20, 40);
        radii(office, 19, 20, 40);
        radii(office, 20, 20, 40);
        noRadii(office, 21, 20, 40);
        noRadii(office, Integer.MAX_VALUE, 20, 40);
    }

    /** "the middle radius, at least the near radius", and at most the far one. */
    private static void promise2Middle() {
        FrequencyOffice office = new FrequencyOffice();
        noRadii(office, 10, 9, 40);
        noRadii(office, 0, -1, 40);
        noRadii(office, 10, Integer.MIN_VALUE, 40);
        radii(office, 10, 10, 40);
        radii(office, 10, 11, 40);
        radii(office, 10, 39, 40);
        radii(office, 10, 40, 40);
        noRadii(office, 10, 41, 40);
        noRadii(office, 10, Integer.MAX_VALUE, 40);
    }

    /** "the far radius, at least the middle radius and at most 200" */
    private static void promise2Far() {
        FrequencyOffice office = new FrequencyOffice();
        noRadii(office, 10, 20, 19);
        noRadii(office, 0, 0, -1);
        noRadii(office, 10, 20, Integer.MIN_VALUE);
        radii(office, 10, 20, 20);
        radii(office, 10, 20, 21);
        radii(office, 10, 20, 199);
        radii(office, 10, 20, 200);
        radii(office, 200, 200, 200);
        radii(office, 0, 0, 0);
        noRadii(office, 10, 20, 201);
        noRadii(office, 201, 201, 201);
        noRadii(office, 10, 20, Integer.MAX_VALUE);
    }

    /** "IllegalStateException if a station exists": one is enough, of either kind; none is none, however it went. */
    private static void promise2AStationExists() {
        FrequencyOffice office = new FrequencyOffice();
        office.license(0, 0, 9);
        Checks.refused("2: one licensed station", ISE, () -> office.setRadii(10, 20, 40));
        office.close(0);
        radii(office, 1, 2, 3);
        office.startTrial(0, 0, 9);
        Checks.refused("2: one trial", ISE, () -> office.setRadii(10, 20, 40));
        office.pass(8);
        Checks.refused("2: on its last day", ISE, () -> office.setRadii(10, 20, 40));
        office.pass(1);
        radii(office, 4, 5, 6);
        office.license(0, 0, 9);
        office.undo();
        radii(office, 7, 8, 9);
        Checks.refused("2: seven stations", ISE, () -> Offices.full().setRadii(0, 0, 0));
    }

    /** "the number of days from the current day to the expiry day, 1 to 365" */
    private static void promise6Days() {
        for (int today : new int[] {0, 1, 999}) {
            FrequencyOffice office = Offices.onDay(today);
            for (int days : new int[] {0, -1, 366, Integer.MIN_VALUE, Integer.MAX_VALUE}) {
                Checks.refused("6: " + days + " days on day " + today, IAE, () -> office.license(0, 0, days));
            }
            for (int days : new int[] {1, 2, 364, 365}) {
                int id = office.license(0, 0, days);
                Checks.due("21: " + days + " days on day " + today, today + days, () -> office.expiryOf(id));
                office.close(id);
            }
        }
    }

    /** "the number of days from the current day to the expiry day, 1 to 30" */
    private static void promise7Days() {
        for (int today : new int[] {0, 1, 999}) {
            FrequencyOffice office = Offices.onDay(today);
            for (int days : new int[] {0, -1, 31, 365, Integer.MIN_VALUE, Integer.MAX_VALUE}) {
                Checks.refused("7: " + days + " days on day " + today, IAE, () -> office.startTrial(0, 0, days));
            }
            for (int days : new int[] {1, 2, 29, 30}) {
                int id = office.startTrial(0, 0, days);
                Checks.due("21: " + days + " days on day " + today, today + days, () -> office.expiryOf(id));
                office.close(id);
            }
        }
    }

    /** "those at which it conflicts with no station, licensed or on trial" */
    private static void promise7NoConflictWithAnyStation() {
        FrequencyOffice trials = Offices.crowded();
        int[] want = {0, 3, 6};
        for (int i = 0; i < 3; i++) {
            int id = trials.startTrial(0, 0, 9);
            Checks.due("7: 3 away from other trials", want[i], () -> trials.channelOf(id));
        }
        Checks.refused("7: no channel beside trials", UOE, () -> trials.startTrial(0, 0, 9));
        FrequencyOffice licensed = Offices.crowded();
        licensed.license(0, 0, 9);
        licensed.license(0, 0, 9);
        licensed.startTrial(0, 0, 9);
        Checks.due("7: 3 away from licensed ones", 7, () -> licensed.channelOf(2));
        Checks.refused("7: no channel beside both", UOE, () -> licensed.startTrial(0, 0, 9));
        licensed.close(2);
        licensed.change(1, 5);
        Checks.refused("7: none 3 away from 0 and 5", UOE, () -> licensed.startTrial(0, 0, 9));
        FrequencyOffice reach = new FrequencyOffice();
        reach.startTrial(50, 50, 9);
        reach.startTrial(50, 90, 9);
        Checks.due("7: out of reach", 0, () -> reach.channelOf(1));
        reach.startTrial(89, 50, 9);
        Checks.due("7: within reach", 1, () -> reach.channelOf(2));
    }

    /** "the channel with the least disturbance" */
    private static void promise7LeastDisturbance() {
        FrequencyOffice office = Offices.oneApart();
        office.license(0, 0, 9);
        office.startTrial(0, 0, 9);
        Checks.due("7: 4 of 1 to 7", 4, () -> office.channelOf(1));
        office.startTrial(0, 0, 9);
        Checks.due("7: 5, as trials do not disturb", 5, () -> office.channelOf(2));
        FrequencyOffice above = Offices.oneApart();
        above.license(0, 0, 9);
        above.change(0, 2);
        above.startTrial(0, 0, 9);
        Checks.due("7: 6 of those beside 2", 6, () -> above.channelOf(1));
    }

    /** "of several, the lowest one" */
    private static void promise7TheLowestOfSeveral() {
        FrequencyOffice office = Offices.oneApart();
        office.license(0, 0, 9);
        office.change(0, 7);
        office.startTrial(0, 0, 9);
        Checks.due("7: 0 of 0 to 3", 0, () -> office.channelOf(1));
        office.startTrial(0, 0, 9);
        Checks.due("7: 1 of 1 to 3", 1, () -> office.channelOf(2));
        office.license(0, 0, 9);
        office.change(3, 3);
        office.startTrial(0, 0, 9);
        Checks.due("7: 0 again, 3 away from 3 and 7 away from 7", 0, () -> office.channelOf(4));
        office.startTrial(0, 0, 9);
        Checks.due("7: 2 is less disturbed than 4, 5 and 6", 2, () -> office.channelOf(5));
    }

    /** "No station is moved." */
    private static void promise7NoStationIsMoved() {
        FrequencyOffice office = Offices.crowded();
        office.license(0, 0, 9);
        office.license(0, 0, 9);
        office.change(1, 5);
        Checks.due("35: a licensed one could have a move", 1, () -> office.movesFor(0, 0));
        Checks.refused("7: no channel without a move", UOE, () -> office.startTrial(0, 0, 9));
        Checks.due("20: as before", 0, () -> office.channelOf(0));
        Checks.due("20: as before", 5, () -> office.channelOf(1));
    }

    /** "the number of days from the current day to the new expiry day, 1 to 365" */
    private static void promise8Days() {
        for (int days : new int[] {0, -1, 366, Integer.MIN_VALUE, Integer.MAX_VALUE}) {
            FrequencyOffice office = new FrequencyOffice();
            office.startTrial(0, 0, 30);
            Checks.refused("8: " + days + " days", IAE, () -> office.confirm(0, days));
            Checks.due("22: still on trial", true, () -> office.isOnTrial(0));
            Checks.due("21: until the old day", 30, () -> office.expiryOf(0));
        }
        for (int days : new int[] {1, 2, 364, 365}) {
            FrequencyOffice office = new FrequencyOffice();
            office.startTrial(0, 0, 30);
            Checks.due("8: " + days + " days", days, () -> office.confirm(0, days));
            Checks.due("22: licensed", false, () -> office.isOnTrial(0));
            Checks.due("21: until the new day", days, () -> office.expiryOf(0));
            Checks.refused("8: licensed already", ISE, () -> office.confirm(0, days));
        }
    }

    /** The days of a confirmation do not start at the old expiry day; its last day on trial is not too late. */
    private static void promise8FromTheCurrentDay() {
        FrequencyOffice office = new FrequencyOffice();
        office.startTrial(0, 0, 30);
        office.pass(29);
        Checks.due("8: one day", 30, () -> office.confirm(0, 1));
        office.undo();
        Checks.due("8: 365 days", 394, () -> office.confirm(0, 365));
        office.undo();
        office.pass(1);
        Checks.refused("8: expired", NSE, () -> office.confirm(0, 365));
    }

    /** "the number of days that are added to the expiry day, 1 to 365" */
    private static void promise9Days() {
        FrequencyOffice office = new FrequencyOffice();
        office.license(0, 0, 1);
        for (int days : new int[] {0, -1, 366, Integer.MIN_VALUE, Integer.MAX_VALUE}) {
            Checks.refused("9: " + days + " days", IAE, () -> office.renew(0, days));
        }
        Checks.refused("9: 365 days are in the range, but too many", ISE, () -> office.renew(0, 365));
        Checks.due("9: 1 day", 2, () -> office.renew(0, 1));
        Checks.due("9: 2 days", 4, () -> office.renew(0, 2));
        Checks.refused("9: 362 days", ISE, () -> office.renew(0, 362));
        Checks.due("9: 361 days", 365, () -> office.renew(0, 361));
        FrequencyOffice longest = new FrequencyOffice();
        longest.license(0, 0, 1);
        Checks.due("9: 364 days", 365, () -> longest.renew(0, 364));
    }

    /** "if ... the new expiry day would be more than 365 days after the current day" */
    private static void promise9At365DaysFromToday() {
        FrequencyOffice office = new FrequencyOffice();
        office.license(0, 0, 365);
        Checks.refused("9: 366 days from today", ISE, () -> office.renew(0, 1));
        office.pass(1);
        Checks.refused("9: 366 days from day 1", ISE, () -> office.renew(0, 2));
        Checks.due("9: 365 days from day 1", 366, () -> office.renew(0, 1));
        office.pass(99);
        Checks.refused("9: 366 days from day 100", ISE, () -> office.renew(0, 100));
        Checks.due("9: 364 days from day 100", 464, () -> office.renew(0, 98));
        Checks.due("9: 365 days from day 100", 465, () -> office.renew(0, 1));
        Checks.due("21: its day", 465, () -> office.expiryOf(0));
        FrequencyOffice last = Offices.onDay(999);
        last.license(0, 0, 1);
        Checks.due("9: beyond the last day", 1364, () -> last.renew(0, 364));
        Checks.refused("9: 366 days from the last day", ISE, () -> last.renew(0, 1));
    }

    /** "Returns the number of stations that are left." */
    private static void promise10TheNumberLeft() {
        FrequencyOffice office = Offices.full();
        int[] order = {3, 0, 6, 5, 1, 4, 2};
        for (int i = 0; i < 7; i++) {
            int id = order[i];
            int left = 6 - i;
            Checks.due("10: left", left, () -> office.close(id));
            Checks.due("13: left", left, office::stationCount);
            Checks.due("15: closed", false, () -> office.exists(id));
            Checks.refused("10: closed already", NSE, () -> office.close(id));
        }
    }

    /** "the number of days, 1 to 99" */
    private static void promise11Days() {
        FrequencyOffice office = new FrequencyOffice();
        for (int days : new int[] {0, -1, 100, Integer.MIN_VALUE, Integer.MAX_VALUE}) {
            Checks.refused("11: " + days + " days", IAE, () -> office.pass(days));
            Checks.due("12: no day", 0, office::today);
        }
        int day = 0;
        for (int days : new int[] {1, 2, 98, 99}) {
            day += days;
            int due = day;
            Checks.due("11: " + days + " days", 0, () -> office.pass(days));
            Checks.due("12: after " + days + " days", due, office::today);
        }
    }

    /** "Whenever the current day has increased by 1, the stations whose expiry day it is expire" */
    private static void promise11TheDayOfExpiry() {
        FrequencyOffice office = Offices.empty();
        office.license(0, 0, 10);
        office.startTrial(0, 0, 11);
        Checks.due("11: the day before", 0, () -> office.pass(9));
        Checks.due("15: the day before", true, () -> office.exists(0));
        Checks.due("11: the licensed one's day", 1, () -> office.pass(1));
        Checks.due("15: the licensed one", false, () -> office.exists(0));
        Checks.due("15: the trial", true, () -> office.exists(1));
        Checks.due("11: the trial's day", 1, () -> office.pass(1));
        Checks.due("15: the trial", false, () -> office.exists(1));
        Checks.due("24: an expired trial was not ended by a plan", 0, office::endedTrials);
        Checks.due("11: the day after", 0, () -> office.pass(1));
        FrequencyOffice last = Offices.onDay(900);
        last.license(0, 0, 99);
        last.license(99, 99, 100);
        Checks.due("11: day 999", 1, () -> last.pass(99));
        Checks.due("15: its day never comes", true, () -> last.exists(1));
    }

    /** "Returns the number of stations that expire in these days": of all the days, and of none before. */
    private static void promise11TheNumberOfExpired() {
        FrequencyOffice office = Offices.empty();
        for (int i = 0; i < 7; i++) {
            office.license(0, 0, i < 3 ? 5 : 5 + i);
        }
        Checks.due("11: none", 0, () -> office.pass(4));
        Checks.due("11: three on one day", 3, () -> office.pass(1));
        Checks.due("23: three", 3, office::expiredTotal);
        Checks.due("11: two on two days", 2, () -> office.pass(4));
        Checks.due("23: five", 5, office::expiredTotal);
        Checks.due("11: the last two", 2, () -> office.pass(99));
        Checks.due("23: seven", 7, office::expiredTotal);
        FrequencyOffice full = Offices.full();
        for (int i = 0; i < 3; i++) {
            full.pass(99);
        }
        Checks.due("11: the day before", 0, () -> full.pass(67));
        Checks.due("11: seven on one day", 7, () -> full.pass(1));
    }

    /** "id: any number" */
    private static void promise15AnyNumber() {
        FrequencyOffice office = Offices.full();
        for (int i = 0; i < 7; i++) {
            int id = i;
            Checks.due("15: " + i, true, () -> office.exists(id));
        }
        for (int id : new int[] {-1, 7, 8, Integer.MIN_VALUE, Integer.MAX_VALUE}) {
            Checks.due("15: " + id, false, () -> office.exists(id));
            Checks.due("15: " + id + " without stations", false, () -> new FrequencyOffice().exists(id));
        }
        Checks.due("15: 0 without stations", false, () -> new FrequencyOffice().exists(0));
    }

    /** "position: the position, from 0", up to the number of stations minus 1. */
    private static void promises16And17Positions() {
        positions("16", FrequencyOffice::stationAt);
        positions("17", FrequencyOffice::stationByExpiry);
    }

    private static void positions(String promise, PositionCall call) {
        FrequencyOffice office = Offices.empty();
        office.close(office.license(0, 0, 9));
        for (int stations = 0; stations <= 7; stations++) {
            for (int position = 0; position < stations; position++) {
                int at = position;
                Checks.due(promise + ": " + at + " of " + stations, at + 1, () -> call.at(office, at));
            }
            for (int out : new int[] {stations, stations + 1, -1, Integer.MIN_VALUE, Integer.MAX_VALUE}) {
                Checks.refused(promise + ": " + out + " of " + stations, IOE, () -> call.at(office, out));
            }
            if (stations < 7) {
                office.startTrial(0, 0, 9);
            }
        }
    }

    /** "of stations with the same expiry day, the one with the lower id comes first" */
    private static void promise17TheSameDay() {
        FrequencyOffice office = Offices.empty();
        int[] days = {9, 8, 9, 7, 8, 9, 8};
        for (int i = 0; i < 7; i++) {
            if (i % 3 == 0) {
                office.startTrial(0, 0, days[i]);
            } else {
                office.license(0, 0, days[i]);
            }
        }
        int[] want = {3, 1, 4, 6, 0, 2, 5};
        for (int i = 0; i < 7; i++) {
            int position = i;
            Checks.due("17: position " + i, want[i], () -> office.stationByExpiry(position));
            Checks.due("16: position " + i, position, () -> office.stationAt(position));
        }
        office.confirm(3, 8);
        Checks.due("17: confirmed to the same day as 1", 1, () -> office.stationByExpiry(0));
        Checks.due("17: behind it, before 4", 3, () -> office.stationByExpiry(1));
    }

    /** "Returns the number of complaints, 0 to 2.", whoever complains. */
    private static void promise27AtMostTwo() {
        for (int first = 0; first < 2; first++) {
            for (int second = 0; second < 2; second++) {
                FrequencyOffice office = Offices.oneApart();
                office.license(0, 0, 9);
                office.license(0, 0, 9);
                Checks.due("27: none", 0, () -> office.complaintCount(0, 1));
                office.complain(first, 1 - first);
                Checks.due("27: one", 1, () -> office.complaintCount(0, 1));
                office.complain(second, 1 - second);
                Checks.due("27: two", 2, () -> office.complaintCount(0, 1));
                Checks.refused("40: a third one", ISE, () -> office.complain(0, 1));
                Checks.refused("40: a third one of the other", ISE, () -> office.complain(1, 0));
                Checks.due("27: still two", 2, () -> office.complaintCount(1, 0));
            }
        }
    }

    /** "Returns the difference minus the separation.": from 0 for stations just far enough up to 7. */
    private static void promise29Margins() {
        FrequencyOffice office = Offices.crowded();
        office.license(0, 0, 9);
        office.startTrial(0, 0, 9);
        Checks.due("29: 4 - 3", 1, () -> office.margin(0, 1));
        office.change(0, 1);
        Checks.due("29: 4 - 1 - 3", 0, () -> office.margin(1, 0));
        FrequencyOffice apart = Offices.empty();
        apart.license(0, 0, 9);
        apart.license(0, 0, 9);
        Checks.due("29: 0 - 0", 0, () -> apart.margin(0, 1));
        apart.change(0, 7);
        Checks.due("29: 7 - 0", 7, () -> apart.margin(0, 1));
    }

    /** Four licensed stations that all reach 50,50, but not each other. */
    private static FrequencyOffice around() {
        FrequencyOffice office = Offices.withRadii(0, 0, 60);
        office.license(50, 0, 9);
        office.license(50, 99, 9);
        office.license(0, 50, 9);
        office.license(99, 50, 9);
        return office;
    }

    /** "Returns with how many stations, licensed or on trial, a new station ... would conflict." */
    private static void promise30NumberOfStations() {
        FrequencyOffice office = around();
        Checks.due("30: four", 4, () -> office.conflictsAt(50, 50, 0));
        Checks.due("30: none 1 away", 0, () -> office.conflictsAt(50, 50, 1));
        office.startTrial(50, 50, 9);
        Checks.due("20: the trial", 4, () -> office.channelOf(4));
        Checks.due("30: the trial", 1, () -> office.conflictsAt(50, 50, 4));
        office.change(0, 4);
        Checks.due("15: the trial is ended", false, () -> office.exists(4));
        Checks.due("30: three", 3, () -> office.conflictsAt(50, 50, 0));
        Checks.due("30: one", 1, () -> office.conflictsAt(50, 50, 4));
        FrequencyOffice all = Offices.oneApart();
        for (int i = 0; i < 7; i++) {
            all.startTrial(0, 0, 9);
        }
        for (int c = 0; c < 8; c++) {
            int channel = c;
            Checks.due("30: channel " + c, c < 7 ? 1 : 0, () -> all.conflictsAt(0, 0, channel));
        }
    }

    /** "The disturbance at a point and a channel is a sum over the licensed stations" */
    private static void promise31SumOfStations() {
        FrequencyOffice office = around();
        int[] four = {16, 12, 8, 4, 0, 0, 0, 0};
        for (int c = 0; c < 8; c++) {
            int channel = c;
            Checks.due("31: channel " + c, four[c], () -> office.disturbanceAt(50, 50, channel));
        }
        office.change(0, 7);
        Checks.due("31: three on 0, one on 7", 3 + 0, () -> office.disturbanceAt(50, 50, 3));
        Checks.due("31: three on 0, one on 7", 0 + 1, () -> office.disturbanceAt(50, 50, 4));
        Checks.due("31: one of them", 4, () -> office.disturbanceAt(50, 0, 7));
    }

    /** "divided by the number of licensed stations, both converted to float" */
    private static void promise32Float() {
        FrequencyOffice office = Offices.oneApart();
        for (int i = 0; i < 7; i++) {
            office.license(0, 0, 9);
        }
        int sum = 0;
        for (int i = 0; i < 7; i++) {
            sum += office.disturbanceAt(0, 0, office.channelOf(i)) - 4;
        }
        float mean = (float) sum / 7.0f;
        Checks.due("32: seven stations", mean, office::meanDisturbance);
        Checks.due("32: not a whole number", false, () -> mean == (int) mean);
        FrequencyOffice three = Offices.oneApart();
        three.license(0, 0, 9);
        three.license(0, 0, 9);
        three.license(0, 0, 9);
        Checks.due("32: 1 + 0 + 1 of channels 0, 4 and 7", 2.0f / 3.0f, three::meanDisturbance);
    }

    /** "as a number in which the bit k is 1 if this is so for the channel k" */
    private static void promise34Bits() {
        FrequencyOffice office = Offices.crowded();
        int[] beside = {
            0b11111000, 0b11110000, 0b11100000, 0b11000001, 0b10000011, 0b00000111, 0b00001111, 0b00011111,
        };
        Checks.due("34: all", 0b11111111, () -> office.openChannels(0, 0));
        office.license(0, 0, 9);
        Checks.due("34: beside channel 0", beside[0], () -> office.openChannels(0, 0));
        for (int c = 1; c < 8; c++) {
            office.change(0, c);
            Checks.due("34: beside channel " + c, beside[c], () -> office.openChannels(0, 0));
        }
    }

    /** "channel: the channel, 0 to 7", of a change and of a look at a point. */
    private static void promises35To39Channels() {
        for (int channel : new int[] {-1, 8, Integer.MIN_VALUE, Integer.MAX_VALUE}) {
            FrequencyOffice office = Offices.crowded();
            office.license(0, 0, 9);
            String what = "channel " + channel;
            Checks.refused("30: " + what, IAE, () -> office.conflictsAt(0, 0, channel));
            Checks.refused("31: " + what, IAE, () -> office.disturbanceAt(0, 0, channel));
            Checks.refused("37: " + what, IAE, () -> office.movesToChange(0, channel));
            Checks.refused("38: " + what, IAE, () -> office.movesToChangeByQueue(0, channel));
            Checks.refused("39: " + what, IAE, () -> office.change(0, channel));
            Checks.due("20: as before", 0, () -> office.channelOf(0));
        }
        for (int c : new int[] {1, 6, 7, 0}) {
            FrequencyOffice office = Offices.crowded();
            office.license(0, 0, 9);
            office.change(0, 3);
            String what = "channel " + c;
            Checks.due("30: " + what, Math.abs(c - 3) < 3 ? 1 : 0, () -> office.conflictsAt(0, 0, c));
            Checks.due("31: " + what, Math.max(0, 4 - Math.abs(c - 3)), () -> office.disturbanceAt(0, 0, c));
            Checks.due("37: " + what, 0, () -> office.movesToChange(0, c));
            Checks.due("38: " + what, 0, () -> office.movesToChangeByQueue(0, c));
            Checks.due("39: " + what, 0, () -> office.change(0, c));
            Checks.due("20: " + what, c, () -> office.channelOf(0));
            Checks.refused("39: its own " + what, ISE, () -> office.change(0, c));
        }
    }

    /** "Returns the number of stations that get new channels, the other station included.": 0 to 3. */
    private static void promise40NumberOfStations() {
        FrequencyOffice none = Offices.crowded();
        none.license(0, 0, 9);
        none.license(0, 0, 9);
        Checks.due("40: none", 0, () -> none.complain(0, 1));
        Checks.due("40: the other one alone", 1, () -> none.complain(0, 1));
        FrequencyOffice moved = Offices.crowded();
        for (int i = 0; i < 3; i++) {
            moved.license(0, 0, 9);
        }
        moved.complain(0, 1);
        Checks.due("40: the other one and a moved one", 2, () -> moved.complain(0, 1));
        Checks.due("41: one move", 1, moved::moveCount);
    }

    /** "Returns the number of channels, 0 without licensed stations." */
    private static void promises45And46WithoutLicensedStations() {
        spans("no station", new FrequencyOffice(), 0, 0);
        FrequencyOffice office = Offices.oneApart();
        for (int i = 0; i < 7; i++) {
            office.startTrial(0, 0, 9);
        }
        spans("seven trials", office, 0, 0);
        office.confirm(6, 9);
        spans("one licensed station among trials", office, 1, 1);
        office.close(6);
        spans("trials again", office, 0, 0);
    }

    private static void spans(String what, FrequencyOffice office, int least, int used) {
        Checks.due("45: " + what, least, office::leastSpan);
        Checks.due("46: " + what, least, office::leastSpanByOrders);
        Checks.due("47: " + what, used, office::usedSpan);
    }

    /** "the least n such that the channels 0 to n - 1 could be assigned": from 1 for one station up to 8. */
    private static void promises45And46FromOneToEight() {
        FrequencyOffice one = Offices.oneApart();
        for (int stations = 1; stations <= 7; stations++) {
            one.license(0, 0, 9);
            int least = stations;
            Checks.due("45: separation 1", least, one::leastSpan);
            Checks.due("46: separation 1", least, one::leastSpanByOrders);
        }
        FrequencyOffice two = Offices.twoApart();
        for (int stations = 1; stations <= 4; stations++) {
            two.license(0, 0, 9);
            int least = 2 * stations - 1;
            Checks.due("45: separation 2", least, two::leastSpan);
            Checks.due("46: separation 2", least, two::leastSpanByOrders);
        }
        FrequencyOffice three = Offices.crowded();
        for (int stations = 1; stations <= 3; stations++) {
            three.license(0, 0, 9);
            int least = 3 * stations - 2;
            Checks.due("45: separation 3", least, three::leastSpan);
            Checks.due("46: separation 3", least, three::leastSpanByOrders);
        }
        three.complain(0, 1);
        Checks.due("45: 3 + 3, with the 4 around", 7, three::leastSpan);
        three.complain(0, 2);
        Checks.due("45: 4 + 3, with the 4 around", 8, three::leastSpan);
        Checks.due("46: 4 + 3, with the 4 around", 8, three::leastSpanByOrders);
    }

    /** The number is the same whichever of the stations is the one that is least bound. */
    private static void promises45And46OfUnequalStations() {
        int[][] pairs = {{0, 1}, {0, 2}, {1, 2}};
        for (int[] pair : pairs) {
            FrequencyOffice office = Offices.crowded();
            for (int i = 0; i < 3; i++) {
                office.license(0, 0, 9);
            }
            office.complain(pair[0], pair[1]);
            Checks.due("28: 4 apart", 4, () -> office.separation(pair[0], pair[1]));
            Checks.due("45: 3 and 3, with 4 around", 7, office::leastSpan);
            Checks.due("46: 3 and 3, with 4 around", 7, office::leastSpanByOrders);
        }
        FrequencyOffice row = new FrequencyOffice();
        row.license(0, 0, 9);
        row.license(15, 0, 9);
        row.license(30, 0, 9);
        Checks.due("45: 2 between neighbours, 1 between the ends", 4, row::leastSpan);
        Checks.due("46: 2 between neighbours, 1 between the ends", 4, row::leastSpanByOrders);
    }

    /** Each of them answers on its own, and after plans that leave a station out. */
    private static void promises45And46OnTheirOwn() {
        FrequencyOffice office = Offices.crowded();
        for (int i = 0; i < 3; i++) {
            office.license(0, 0, 9);
        }
        Checks.due("46: at once", 7, office::leastSpanByOrders);
        office.movesToChange(0, 6);
        Checks.due("46: after a look at a change", 7, office::leastSpanByOrders);
        office.movesToChange(0, 6);
        Checks.due("45: after a look at a change", 7, office::leastSpan);
        office.close(0);
        Checks.due("46: after a close", 4, office::leastSpanByOrders);
        office.close(1);
        Checks.due("45: after another close", 1, office::leastSpan);
    }

    /** "channels above 7 are possible here": first 2, 3 and 0 on the channels 0, 3 and 5, then 1 on channel 9. */
    private static void promise46ChannelsAbove7() {
        FrequencyOffice office = Offices.twoApart();
        for (int i = 0; i < 4; i++) {
            office.license(0, 0, 9);
        }
        office.complain(0, 1);
        office.complain(0, 1);
        office.complain(2, 3);
        Checks.due("28: 4 apart", 4, () -> office.separation(0, 1));
        Checks.due("28: 3 apart", 3, () -> office.separation(2, 3));
        spans("0, 2, 1 and 3 on the channels 0, 2, 4 and 6", office, 7, office.usedSpan());
    }

    /** "the number of channels from the lowest to the highest channel of a licensed station, both included" */
    private static void promise47FromOneToEight() {
        FrequencyOffice office = Offices.empty();
        office.license(0, 0, 9);
        Checks.due("47: one on channel 0", 1, office::usedSpan);
        office.change(0, 7);
        Checks.due("47: one on channel 7", 1, office::usedSpan);
        office.license(0, 0, 9);
        Checks.due("47: 0 and 7", 8, office::usedSpan);
        for (int c = 1; c < 8; c++) {
            int channel = c;
            office.change(1, channel);
            Checks.due("47: from " + c + " to 7", 8 - c, office::usedSpan);
        }
        FrequencyOffice trial = Offices.oneApart();
        trial.license(0, 0, 9);
        trial.startTrial(0, 0, 9);
        Checks.due("47: a trial on channel 4 is not licensed", 1, trial::usedSpan);
    }

    private static void line(String want, FrequencyOffice office, int id) {
        Checks.due("48: length of " + want, want.length(), () -> office.writeStation(id));
        StringBuilder text = new StringBuilder();
        for (int i = 0; i < want.length(); i++) {
            text.append(office.lineAt(i));
        }
        Checks.same("49: the line", want, text.toString());
        Checks.refused("49: behind " + want, IOE, () -> office.lineAt(want.length()));
    }

    /** "the id, "@", the x-coordinate, ",", the y-coordinate, ...": from the shortest line to the longest. */
    private static void promise48Forms() {
        FrequencyOffice office = Offices.onDay(999);
        office.license(0, 0, 1);
        line("0@0,0 c0 L1000", office, 0);
        FrequencyOffice first = new FrequencyOffice();
        first.startTrial(0, 0, 1);
        line("0@0,0 c0 T1", first, 0);
        first.confirm(0, 9);
        line("0@0,0 c0 L9", first, 0);
        first.renew(0, 1);
        line("0@0,0 c0 L10", first, 0);
        first.startTrial(9, 10, 30);
        line("1@9,10 c4 T30", first, 1);
        first.license(99, 9, 99);
        line("2@99,9 c0 L99", first, 2);
        first.license(99, 99, 100);
        line("3@99,99 c0 L100", first, 3);
        for (int i = 0; i < 96; i++) {
            office.close(office.license(0, 0, 1));
        }
        office.close(0);
        for (int i = 97; i < 100; i++) {
            office.license(99, 99, 365);
        }
        line("99@99,99 c7 L1364", office, 99);
        office.close(98);
        office.change(99, 6);
        office.license(12, 40, 365);
        line("100@12,40 c0 L1364", office, 100);
        line("99@99,99 c6 L1364", office, 99);
    }

    /** "index of the character, from 0" */
    private static void promise49Index() {
        FrequencyOffice office = new FrequencyOffice();
        for (int index : new int[] {0, 1, -1, Integer.MIN_VALUE, Integer.MAX_VALUE}) {
            Checks.refused("49: " + index + " of the empty line", IOE, () -> office.lineAt(index));
        }
        office.license(12, 40, 120);
        office.writeStation(0);
        Checks.due("49: the first one", '0', () -> office.lineAt(0));
        Checks.due("49: the last but one", '2', () -> office.lineAt(13));
        Checks.due("49: the last one", '0', () -> office.lineAt(14));
        for (int index : new int[] {15, 16, -1, Integer.MIN_VALUE, Integer.MAX_VALUE}) {
            Checks.refused("49: " + index + " of 15", IOE, () -> office.lineAt(index));
        }
        office.license(1, 1, 9);
        office.writeStation(1);
        Checks.due("49: the last one of a shorter line", '9', () -> office.lineAt(10));
        Checks.refused("49: of the line before", IOE, () -> office.lineAt(11));
        Checks.refused("48: no station", NSE, () -> office.writeStation(2));
        Checks.due("49: the line is as before", '9', () -> office.lineAt(10));
    }
}
