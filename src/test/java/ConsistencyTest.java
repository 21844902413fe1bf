import java.lang.reflect.Array;
import java.lang.reflect.Field;

/**
 * Promise 33 in the states that no calls reach, since every call keeps an office consistent: here the channels and the
 * expiry days are written into the books past the calls.
 */
public final class ConsistencyTest {
    private ConsistencyTest() {
    }

    public static void main(String[] args) throws ReflectiveOperationException {
        noTwoLicensedStationsConflict();
        noTrialConflictsWithALicensedStation();
        noTrialConflictsWithATrial();
        complaintsCount();
        noExpiryDayIsOnOrBeforeTheCurrentDay();
        Checks.end();
    }

    private static Object read(Object owner, String name) throws ReflectiveOperationException {
        Field field = owner.getClass().getDeclaredField(name);
        field.setAccessible(true);
        return field.get(owner);
    }

    private static void write(FrequencyOffice office, int position, String name, int value)
            throws ReflectiveOperationException {
        Object station = Array.get(read(read(office, "books"), "stations"), position);
        Field field = station.getClass().getDeclaredField(name);
        field.setAccessible(true);
        field.setInt(station, value);
    }

    private static void channels(String what, boolean want, FrequencyOffice office, int... channels)
            throws ReflectiveOperationException {
        for (int i = 0; i < channels.length; i++) {
            int position = i;
            write(office, i, "channel", channels[i]);
            Checks.due("20: " + what, channels[i], () -> office.channelOf(office.stationAt(position)));
        }
        Checks.due("33: " + what, want, office::isConsistent);
    }

    /** "no two licensed stations conflict": every two of them, the difference being less than the separation. */
    private static void noTwoLicensedStationsConflict() throws ReflectiveOperationException {
        FrequencyOffice office = Offices.crowded();
        for (int i = 0; i < 3; i++) {
            office.license(0, 0, 9);
        }
        channels("3 apart", true, office, 0, 3, 6);
        channels("the first two 2 apart", false, office, 1, 3, 6);
        channels("the last two 2 apart", false, office, 0, 4, 6);
        channels("the first and the last 2 apart", false, office, 0, 6, 2);
        channels("the same channel", false, office, 0, 0, 6);
        channels("3 apart in another order", true, office, 7, 1, 4);
    }

    /** "no station on trial conflicts with any station", such as a licensed one. */
    private static void noTrialConflictsWithALicensedStation() throws ReflectiveOperationException {
        FrequencyOffice office = Offices.crowded();
        office.license(0, 0, 9);
        office.startTrial(0, 0, 9);
        channels("a trial 3 apart", true, office, 0, 3);
        channels("a trial 2 apart", false, office, 0, 2);
        FrequencyOffice before = Offices.crowded();
        before.startTrial(0, 0, 9);
        before.startTrial(0, 0, 9);
        before.confirm(1, 9);
        channels("a trial before a licensed one, 3 apart", true, before, 6, 3);
        channels("a trial before a licensed one, 2 apart", false, before, 5, 3);
    }

    /** "no station on trial conflicts with any station", such as another one on trial. */
    private static void noTrialConflictsWithATrial() throws ReflectiveOperationException {
        FrequencyOffice office = Offices.twoApart();
        office.startTrial(0, 0, 9);
        office.startTrial(0, 0, 9);
        channels("two trials 2 apart", true, office, 4, 2);
        channels("two trials 1 apart", false, office, 4, 3);
        FrequencyOffice apart = Offices.empty();
        apart.startTrial(0, 0, 9);
        apart.startTrial(0, 0, 9);
        channels("the same channel without a separation", true, apart, 4, 4);
    }

    /** The separation is that with the complaints. */
    private static void complaintsCount() throws ReflectiveOperationException {
        FrequencyOffice office = Offices.crowded();
        office.license(0, 0, 9);
        office.license(0, 0, 9);
        office.complain(0, 1);
        channels("4 apart after a complaint", true, office, 1, 5);
        channels("3 apart after a complaint", false, office, 2, 5);
    }

    /** "no expiry day is before or on the current day" */
    private static void noExpiryDayIsOnOrBeforeTheCurrentDay() throws ReflectiveOperationException {
        for (int position = 0; position < 3; position++) {
            FrequencyOffice office = Offices.empty();
            office.pass(50);
            office.license(0, 0, 9);
            office.startTrial(0, 0, 9);
            office.license(0, 0, 9);
            for (int expiry : new int[] {0, 49, 50, 51, 52}) {
                write(office, position, "expiry", expiry);
                Checks.due("33: until day " + expiry + " on day 50, position " + position, expiry > 50,
                        office::isConsistent);
            }
        }
    }
}
