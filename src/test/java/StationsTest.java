import java.util.NoSuchElementException;

/** Promises 1 to 24: a new object, the radii, the stations and their terms. */
public final class StationsTest {
    private static final Class<?> IAE = IllegalArgumentException.class;
    private static final Class<?> ISE = IllegalStateException.class;
    private static final Class<?> UOE = UnsupportedOperationException.class;
    private static final Class<?> NSE = NoSuchElementException.class;
    private static final Class<?> IOE = IndexOutOfBoundsException.class;

    private StationsTest() {
    }

    public static void main(String[] args) {
        promise1NewObject();
        promises2To5Radii();
        promise2Refusals();
        promise6License();
        promise6Refusals();
        promise6SevenStations();
        promise7StartTrial();
        promise7Refusals();
        promise8Confirm();
        promise9Renew();
        promise10Close();
        promise11And12Pass();
        promise11LastDay();
        promise13And14Counts();
        promise15Exists();
        promise16StationAt();
        promise17StationByExpiry();
        promises18To22Station();
        promise23ExpiredTotal();
        promise24EndedTrials();
        Checks.end();
    }

    private static void promise1NewObject() {
        FrequencyOffice office = new FrequencyOffice();
        Checks.due("1: the day", 0, office::today);
        Checks.due("1: the stations", 0, office::stationCount);
        Checks.due("1: the licensed stations", 0, office::licensedCount);
        Checks.due("1: no id 0", false, () -> office.exists(0));
        Checks.due("1: expired", 0, office::expiredTotal);
        Checks.due("1: ended", 0, office::endedTrials);
        Checks.due("1: near", 10, office::nearRadius);
        Checks.due("1: middle", 20, office::middleRadius);
        Checks.due("1: far", 40, office::farRadius);
        Checks.due("1: consistent", true, office::isConsistent);
        Checks.refused("1: no line", IOE, () -> office.lineAt(0));
        Checks.refused("1: no plan", NSE, office::moveCount);
        Checks.refused("1: no modification", ISE, office::undo);
        Checks.refused("1: no snapshot", ISE, office::restore);
    }

    private static void promises2To5Radii() {
        FrequencyOffice office = new FrequencyOffice();
        Checks.due("2: the far radius at first", 40, () -> office.setRadii(1, 2, 3));
        Checks.due("3: near", 1, office::nearRadius);
        Checks.due("4: middle", 2, office::middleRadius);
        Checks.due("5: far", 3, office::farRadius);
        Checks.due("2: the lowest radii", 3, () -> office.setRadii(0, 0, 0));
        Checks.due("3: near 0", 0, office::nearRadius);
        Checks.due("4: middle 0", 0, office::middleRadius);
        Checks.due("5: far 0", 0, office::farRadius);
        Checks.due("2: the highest radii", 0, () -> office.setRadii(200, 200, 200));
        Checks.due("2: back", 200, () -> office.setRadii(0, 0, 200));
        Checks.due("2: the middle one", 200, () -> office.setRadii(0, 200, 200));
        Checks.due("4: middle 200", 200, office::middleRadius);
    }

    private static void promise2Refusals() {
        FrequencyOffice office = new FrequencyOffice();
        int[][] bad = {
            {-1, 20, 40}, {21, 20, 40}, {10, 9, 40}, {10, 41, 40}, {10, 20, 19}, {10, 20, 201}, {10, 201, 201},
            {201, 201, 201}, {-1, -1, -1}, {0, 0, -1}, {0, -1, 0}, {Integer.MIN_VALUE, 0, 0},
            {0, 0, Integer.MAX_VALUE}, {0, Integer.MAX_VALUE, 200}, {Integer.MAX_VALUE, 20, 40},
        };
        for (int[] r : bad) {
            Checks.refused("2: radii " + r[0] + " " + r[1] + " " + r[2], IAE, () -> office.setRadii(r[0], r[1], r[2]));
        }
        Checks.due("3: as before", 10, office::nearRadius);
        Checks.due("4: as before", 20, office::middleRadius);
        Checks.due("5: as before", 40, office::farRadius);
        Checks.refused("2: nothing to undo after refusals", ISE, office::undo);
        office.license(1, 1, 1);
        Checks.refused("2: a licensed station", ISE, () -> office.setRadii(1, 2, 3));
        Checks.refused("2: the range comes first", IAE, () -> office.setRadii(-1, 2, 3));
        office.close(0);
        office.startTrial(1, 1, 1);
        Checks.refused("2: a station on trial", ISE, () -> office.setRadii(1, 2, 3));
        office.close(1);
        Checks.due("2: no station any more", 40, () -> office.setRadii(1, 2, 3));
    }

    private static void promise6License() {
        FrequencyOffice office = Offices.crowded();
        Checks.due("6: the first id", 0, () -> office.license(0, 0, 1));
        Checks.due("6: the lowest channel", 0, () -> office.channelOf(0));
        Checks.due("6: the next id", 1, () -> office.license(99, 99, 365));
        Checks.due("6: the least disturbance", 4, () -> office.channelOf(1));
        Checks.due("6: its x", 99, () -> office.xOf(1));
        Checks.due("6: its y", 99, () -> office.yOf(1));
        Checks.due("6: its expiry", 365, () -> office.expiryOf(1));
        Checks.due("6: licensed", false, () -> office.isOnTrial(1));
        office.pass(1);
        Checks.due("6: ids are not used again", 2, () -> office.license(5, 5, 365));
        Checks.due("6: the term starts today", 366, () -> office.expiryOf(2));
        Checks.due("6: of equal disturbances the lowest channel", 0, () -> office.channelOf(2));
        office.close(2);
        Checks.due("6: an id of a closed station", 3, () -> office.license(5, 5, 1));
        moveForNew();
    }

    private static void moveForNew() {
        FrequencyOffice office = Offices.crowded();
        office.license(0, 0, 9);
        office.license(1, 1, 9);
        office.change(1, 5);
        Checks.due("6: with a move", 2, () -> office.license(2, 2, 9));
        Checks.due("6: the other one stays", 0, () -> office.channelOf(0));
        Checks.due("6: the moved one", 3, () -> office.channelOf(1));
        Checks.due("6: the less disturbed one of 6 and 7", 7, () -> office.channelOf(2));
        Checks.refused("6: no fourth channel", UOE, () -> office.license(3, 3, 9));
        Checks.due("6: nothing is added", 3, office::stationCount);
        office.close(2);
        Checks.due("6: the id was not spent", 3, () -> office.license(3, 3, 9));
    }

    private static void promise6Refusals() {
        FrequencyOffice office = new FrequencyOffice();
        int[][] bad = {
            {-1, 0, 1}, {100, 0, 1}, {0, -1, 1}, {0, 100, 1}, {0, 0, 0}, {0, 0, 366}, {0, 0, -1},
            {Integer.MIN_VALUE, 0, 1}, {0, Integer.MAX_VALUE, 1}, {0, 0, Integer.MAX_VALUE}, {0, 0, Integer.MIN_VALUE},
        };
        for (int[] a : bad) {
            Checks.refused("6: license " + a[0] + " " + a[1] + " " + a[2], IAE, () -> office.license(a[0], a[1], a[2]));
            Checks.refused("7: trial " + a[0] + " " + a[1] + " " + a[2], IAE,
                    () -> office.startTrial(a[0], a[1], a[2]));
        }
        Checks.due("6: no station", 0, office::stationCount);
        Checks.refused("6: no plan", NSE, office::moveCount);
        Checks.due("6: the first id is still 0", 0, () -> office.license(0, 0, 1));
    }

    private static void promise6SevenStations() {
        FrequencyOffice office = Offices.empty();
        for (int i = 0; i < 7; i++) {
            int id = i;
            Checks.due("6: station " + i, id, () -> office.license(50, 50, 9));
        }
        Checks.refused("6: the eighth one", ISE, () -> office.license(50, 50, 9));
        Checks.refused("7: the eighth one", ISE, () -> office.startTrial(50, 50, 9));
        Checks.refused("6: the range comes first", IAE, () -> office.license(50, 50, 0));
        Checks.refused("7: the range comes first", IAE, () -> office.startTrial(50, 50, 31));
        office.close(3);
        Checks.due("7: room again", 7, () -> office.startTrial(50, 50, 9));
        Checks.refused("6: a trial counts too", ISE, () -> office.license(50, 50, 9));
        sevenBeforeNoPlan();
    }

    private static void sevenBeforeNoPlan() {
        FrequencyOffice office = new FrequencyOffice();
        office.setRadii(0, 0, 200);
        for (int i = 0; i < 7; i++) {
            office.license(50, 50, 9);
        }
        Checks.due("36: a plan for an eighth one", 0, () -> office.movesForByQueue(50, 50));
        Checks.due("35: a plan for an eighth one", 0, () -> office.movesFor(50, 50));
        FrequencyOffice full = new FrequencyOffice();
        full.setRadii(0, 10, 10);
        for (int i = 0; i < 3; i++) {
            full.license(50, 50, 9);
            full.license(0, 0, 9);
        }
        full.license(0, 0, 9);
        Checks.due("34: no channel at the point", 0, () -> full.openChannels(0, 0));
        Checks.refused("6: seven stations come before no plan", ISE, () -> full.license(0, 0, 9));
        Checks.refused("7: seven stations come before no channel", ISE, () -> full.startTrial(0, 0, 9));
        Checks.refused("35: no plan", UOE, () -> full.movesFor(0, 0));
        Checks.refused("36: no plan", UOE, () -> full.movesForByQueue(0, 0));
    }

    private static void promise7StartTrial() {
        FrequencyOffice office = Offices.crowded();
        Checks.due("7: the first id", 0, () -> office.startTrial(7, 8, 30));
        Checks.due("7: the lowest channel", 0, () -> office.channelOf(0));
        Checks.due("7: on trial", true, () -> office.isOnTrial(0));
        Checks.due("7: its x", 7, () -> office.xOf(0));
        Checks.due("7: its y", 8, () -> office.yOf(0));
        Checks.due("7: its expiry", 30, () -> office.expiryOf(0));
        Checks.due("7: a trial is no disturbance but a conflict", 1, () -> office.startTrial(7, 8, 1));
        Checks.due("7: the lowest one without a conflict", 3, () -> office.channelOf(1));
        Checks.due("7: the third one", 2, () -> office.startTrial(7, 8, 30));
        Checks.due("7: its channel", 6, () -> office.channelOf(2));
        Checks.refused("7: no fourth channel", UOE, () -> office.startTrial(7, 8, 30));
        office.pass(1);
        Checks.due("7: the term starts today, the id is the next one", 3, () -> office.startTrial(7, 8, 30));
        Checks.due("7: its expiry", 31, () -> office.expiryOf(3));
        Checks.due("7: trials are no plans", 3, office::stationCount);
        Checks.refused("7: trials are no plans", NSE, office::moveCount);
        trialNextToLicensed();
    }

    private static void trialNextToLicensed() {
        FrequencyOffice office = Offices.crowded();
        office.license(0, 0, 9);
        office.license(0, 0, 9);
        office.change(1, 5);
        Checks.refused("7: no station is moved", UOE, () -> office.startTrial(0, 0, 9));
        office.close(1);
        office.startTrial(0, 0, 9);
        Checks.due("7: the least disturbance, then the lowest", 4, () -> office.channelOf(2));
    }

    private static void promise7Refusals() {
        FrequencyOffice office = new FrequencyOffice();
        Checks.refused("7: 31 days", IAE, () -> office.startTrial(0, 0, 31));
        Checks.due("7: 30 days", 0, () -> office.startTrial(99, 99, 30));
        Checks.due("6: 365 days", 1, () -> office.license(99, 99, 365));
    }

    private static void promise8Confirm() {
        FrequencyOffice office = new FrequencyOffice();
        office.startTrial(0, 0, 10);
        office.startTrial(0, 0, 10);
        office.pass(3);
        Checks.refused("8: no such id", NSE, () -> office.confirm(2, 0));
        Checks.refused("8: id -1", NSE, () -> office.confirm(-1, 5));
        Checks.refused("8: 0 days", IAE, () -> office.confirm(1, 0));
        Checks.refused("8: 366 days", IAE, () -> office.confirm(1, 366));
        Checks.due("8: still on trial", true, () -> office.isOnTrial(1));
        Checks.due("8: the new expiry day", 4, () -> office.confirm(0, 1));
        Checks.due("8: 365 days", 368, () -> office.confirm(1, 365));
        Checks.due("8: licensed", false, () -> office.isOnTrial(1));
        Checks.due("8: its channel", 3, () -> office.channelOf(1));
        Checks.due("8: its expiry", 368, () -> office.expiryOf(1));
        Checks.refused("8: licensed already", ISE, () -> office.confirm(1, 5));
        Checks.refused("8: the days come first", IAE, () -> office.confirm(1, 366));
        Checks.due("8: the number of licensed stations", 2, office::licensedCount);
        Checks.refused("8: no plan", NSE, office::moveCount);
    }

    private static void promise9Renew() {
        FrequencyOffice office = new FrequencyOffice();
        office.license(0, 0, 100);
        office.startTrial(50, 50, 10);
        Checks.refused("9: no such id", NSE, () -> office.renew(2, 0));
        Checks.refused("9: 0 days", IAE, () -> office.renew(0, 0));
        Checks.refused("9: 366 days", IAE, () -> office.renew(0, 366));
        Checks.refused("9: the largest number", IAE, () -> office.renew(0, Integer.MAX_VALUE));
        Checks.refused("9: on trial", ISE, () -> office.renew(1, 5));
        Checks.refused("9: the days come before the trial", IAE, () -> office.renew(1, 366));
        Checks.refused("9: one day too many", ISE, () -> office.renew(0, 266));
        Checks.due("9: as before", 100, () -> office.expiryOf(0));
        Checks.due("9: as many as can be", 365, () -> office.renew(0, 265));
        Checks.due("9: its expiry", 365, () -> office.expiryOf(0));
        Checks.refused("9: no day more", ISE, () -> office.renew(0, 1));
        office.pass(1);
        Checks.due("9: a day more", 366, () -> office.renew(0, 1));
    }

    private static void promise10Close() {
        FrequencyOffice office = Offices.empty();
        office.license(1, 2, 10);
        office.license(3, 4, 20);
        office.startTrial(5, 6, 30);
        Checks.refused("10: no such id", NSE, () -> office.close(3));
        Checks.refused("10: id -1", NSE, () -> office.close(-1));
        Checks.due("10: the first one", 2, () -> office.close(0));
        Checks.refused("10: closed already", NSE, () -> office.close(0));
        Checks.due("10: does not exist", false, () -> office.exists(0));
        Checks.due("10: the next one's x", 3, () -> office.xOf(1));
        Checks.due("10: the next one's expiry", 20, () -> office.expiryOf(1));
        Checks.due("10: the trial", 1, () -> office.close(2));
        Checks.due("10: the last one", 0, () -> office.close(1));
        Checks.due("10: closing is no expiry", 0, office::expiredTotal);
        Checks.due("10: closing ends no trial", 0, office::endedTrials);
    }

    private static void promise11And12Pass() {
        FrequencyOffice office = Offices.empty();
        office.license(0, 0, 1);
        office.license(0, 0, 2);
        office.startTrial(0, 0, 2);
        office.license(0, 0, 3);
        Checks.refused("11: 0 days", IAE, () -> office.pass(0));
        Checks.refused("11: 100 days", IAE, () -> office.pass(100));
        Checks.refused("11: -1 days", IAE, () -> office.pass(-1));
        Checks.refused("11: the largest number", IAE, () -> office.pass(Integer.MAX_VALUE));
        Checks.due("12: no day passed", 0, office::today);
        Checks.due("11: two days", 3, () -> office.pass(2));
        Checks.due("12: the day", 2, office::today);
        Checks.due("11: the one that is left", 3, () -> office.stationAt(0));
        Checks.due("11: the last one expires", 1, () -> office.pass(99));
        Checks.due("11: none is left", 0, () -> office.pass(1));
        Checks.due("12: the day", 102, office::today);
    }

    private static void promise11LastDay() {
        FrequencyOffice office = Offices.empty();
        for (int i = 0; i < 10; i++) {
            office.pass(99);
        }
        Checks.due("12: day 990", 990, office::today);
        office.license(0, 0, 9);
        office.license(0, 0, 365);
        Checks.refused("11: past the last day", ISE, () -> office.pass(10));
        Checks.refused("11: far past the last day", ISE, () -> office.pass(99));
        Checks.due("12: still day 990", 990, office::today);
        Checks.due("11: up to the last day", 1, () -> office.pass(9));
        Checks.due("12: day 999", 999, office::today);
        Checks.refused("11: day 1000", ISE, () -> office.pass(1));
        Checks.refused("11: the range comes first", IAE, () -> office.pass(0));
        Checks.due("21: expiry beyond the last day", 1355, () -> office.expiryOf(1));
    }

    private static void promise13And14Counts() {
        FrequencyOffice office = Offices.empty();
        Checks.due("13: none", 0, office::stationCount);
        office.license(0, 0, 1);
        office.startTrial(0, 0, 1);
        office.startTrial(0, 0, 2);
        Checks.due("13: three", 3, office::stationCount);
        Checks.due("14: one", 1, office::licensedCount);
        office.confirm(2, 9);
        Checks.due("14: two", 2, office::licensedCount);
        office.pass(1);
        Checks.due("13: one", 1, office::stationCount);
        Checks.due("14: one", 1, office::licensedCount);
    }

    private static void promise15Exists() {
        FrequencyOffice office = Offices.empty();
        Checks.due("15: none at first", false, () -> office.exists(0));
        office.license(0, 0, 1);
        office.startTrial(0, 0, 2);
        Checks.due("15: licensed", true, () -> office.exists(0));
        Checks.due("15: on trial", true, () -> office.exists(1));
        Checks.due("15: the next id", false, () -> office.exists(2));
        Checks.due("15: -1", false, () -> office.exists(-1));
        Checks.due("15: the largest number", false, () -> office.exists(Integer.MAX_VALUE));
        Checks.due("15: the smallest number", false, () -> office.exists(Integer.MIN_VALUE));
        office.pass(1);
        Checks.due("15: expired", false, () -> office.exists(0));
        Checks.due("15: not yet", true, () -> office.exists(1));
    }

    private static void promise16StationAt() {
        FrequencyOffice office = Offices.empty();
        Checks.refused("16: no station", IOE, () -> office.stationAt(0));
        for (int i = 0; i < 7; i++) {
            office.license(0, 0, 100 - i);
        }
        office.close(0);
        office.close(3);
        int[] ids = {1, 2, 4, 5, 6};
        for (int i = 0; i < 5; i++) {
            int position = i;
            Checks.due("16: position " + i, ids[i], () -> office.stationAt(position));
        }
        Checks.refused("16: past the end", IOE, () -> office.stationAt(5));
        Checks.refused("16: far past the end", IOE, () -> office.stationAt(Integer.MAX_VALUE));
        Checks.refused("16: -1", IOE, () -> office.stationAt(-1));
        Checks.refused("16: the smallest number", IOE, () -> office.stationAt(Integer.MIN_VALUE));
    }

    private static void promise17StationByExpiry() {
        FrequencyOffice office = Offices.empty();
        Checks.refused("17: no station", IOE, () -> office.stationByExpiry(0));
        int[] days = {20, 5, 20, 30, 5, 1, 20};
        for (int i = 0; i < 7; i++) {
            if (i % 2 == 0) {
                office.license(0, 0, days[i]);
            } else {
                office.startTrial(0, 0, days[i]);
            }
        }
        int[] ids = {5, 1, 4, 0, 2, 6, 3};
        for (int i = 0; i < 7; i++) {
            int position = i;
            Checks.due("17: position " + i, ids[i], () -> office.stationByExpiry(position));
        }
        Checks.refused("17: past the end", IOE, () -> office.stationByExpiry(7));
        Checks.refused("17: far past the end", IOE, () -> office.stationByExpiry(Integer.MAX_VALUE));
        Checks.refused("17: -1", IOE, () -> office.stationByExpiry(-1));
        office.renew(0, 100);
        Checks.due("17: the renewed one is the last", 0, () -> office.stationByExpiry(6));
    }

    private static void promises18To22Station() {
        FrequencyOffice office = new FrequencyOffice();
        office.license(12, 34, 56);
        office.startTrial(98, 76, 5);
        office.license(12, 34, 56);
        Checks.due("18: x", 12, () -> office.xOf(0));
        Checks.due("18: x", 98, () -> office.xOf(1));
        Checks.due("19: y", 34, () -> office.yOf(0));
        Checks.due("19: y", 76, () -> office.yOf(1));
        Checks.due("20: channel", 0, () -> office.channelOf(0));
        Checks.due("20: channel", 4, () -> office.channelOf(2));
        Checks.due("21: expiry", 56, () -> office.expiryOf(0));
        Checks.due("21: expiry", 5, () -> office.expiryOf(1));
        Checks.due("22: licensed", false, () -> office.isOnTrial(0));
        Checks.due("22: on trial", true, () -> office.isOnTrial(1));
        office.close(0);
        int[] ids = {0, 3, -1, Integer.MAX_VALUE, Integer.MIN_VALUE};
        for (int id : ids) {
            Checks.refused("18: x of " + id, NSE, () -> office.xOf(id));
            Checks.refused("19: y of " + id, NSE, () -> office.yOf(id));
            Checks.refused("20: channel of " + id, NSE, () -> office.channelOf(id));
            Checks.refused("21: expiry of " + id, NSE, () -> office.expiryOf(id));
            Checks.refused("22: trial of " + id, NSE, () -> office.isOnTrial(id));
        }
    }

    private static void promise23ExpiredTotal() {
        FrequencyOffice office = Offices.empty();
        office.license(0, 0, 1);
        office.startTrial(0, 0, 1);
        office.license(0, 0, 4);
        office.license(0, 0, 5);
        office.pass(1);
        Checks.due("23: two", 2, office::expiredTotal);
        office.close(3);
        office.pass(3);
        Checks.due("23: three", 3, office::expiredTotal);
        office.pass(50);
        Checks.due("23: still three", 3, office::expiredTotal);
    }

    private static void promise24EndedTrials() {
        FrequencyOffice office = Offices.crowded();
        office.startTrial(0, 0, 9);
        office.startTrial(0, 0, 9);
        office.startTrial(0, 0, 9);
        Checks.due("24: none yet", 0, office::endedTrials);
        office.license(0, 0, 9);
        Checks.due("24: the one at channel 0", 1, office::endedTrials);
        Checks.due("24: it is gone", false, () -> office.exists(0));
        Checks.due("24: the one at channel 3 stays", true, () -> office.exists(1));
        office.change(3, 5);
        Checks.due("24: the ones at channels 3 and 6", 3, office::endedTrials);
        Checks.due("24: the licensed one is left", 1, office::stationCount);
        Checks.due("24: they did not expire", 0, office::expiredTotal);
    }
}
