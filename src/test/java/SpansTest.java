/** Promises 45 to 47: the least number of channels, and the number that is used. */
public final class SpansTest {
    private SpansTest() {
    }

    public static void main(String[] args) {
        none();
        crowded();
        sameChannel();
        sevenChannels();
        eightChannels();
        complaints();
        outOfOrder();
        Checks.end();
    }

    private static void spans(String what, FrequencyOffice office, int least, int used) {
        Checks.due("45: " + what, least, office::leastSpan);
        Checks.due("46: " + what, least, office::leastSpanByOrders);
        Checks.due("47: " + what, used, office::usedSpan);
    }

    private static void none() {
        FrequencyOffice office = Offices.crowded();
        spans("no station", office, 0, 0);
        office.startTrial(0, 0, 9);
        office.startTrial(0, 0, 9);
        spans("no licensed station", office, 0, 0);
    }

    private static void crowded() {
        FrequencyOffice office = Offices.crowded();
        office.license(0, 0, 9);
        spans("one station", office, 1, 1);
        office.change(0, 6);
        spans("one station at channel 6", office, 1, 1);
        office.change(0, 0);
        office.license(0, 0, 9);
        spans("two stations", office, 4, 5);
        office.startTrial(0, 0, 9);
        spans("trials do not matter", office, 4, 5);
        office.license(0, 0, 9);
        spans("three stations", office, 7, 8);
        office.close(1);
        spans("the middle one is closed", office, 4, 8);
    }

    private static void sameChannel() {
        FrequencyOffice office = Offices.empty();
        for (int i = 0; i < 7; i++) {
            office.license(0, 0, 9);
        }
        spans("seven stations without separations", office, 1, 1);
        office.change(3, 5);
        spans("one of them elsewhere", office, 1, 6);
    }

    private static void sevenChannels() {
        FrequencyOffice office = new FrequencyOffice();
        office.setRadii(0, 0, 200);
        for (int i = 0; i < 7; i++) {
            office.license(i, i, 9);
        }
        spans("seven stations of separation 1", office, 7, 8);
    }

    private static void eightChannels() {
        FrequencyOffice office = Offices.crowded();
        for (int i = 0; i < 3; i++) {
            office.license(0, 0, 9);
        }
        office.complain(0, 1);
        spans("3, 3 and 4", office, 7, 8);
        office.complain(2, 1);
        spans("3, 4 and 4", office, 8, 8);
    }

    private static void complaints() {
        FrequencyOffice office = Offices.crowded();
        office.license(0, 0, 9);
        office.license(0, 0, 9);
        office.complain(0, 1);
        spans("the separation 4", office, 5, 5);
        office.complain(0, 1);
        spans("the separation 5", office, 6, office.channelOf(1) + 1);
    }

    /** In a row of three, a channel for the middle one in the ascending order of ids would need more. */
    private static void outOfOrder() {
        FrequencyOffice office = new FrequencyOffice();
        office.license(0, 0, 9);
        office.license(0, 40, 9);
        office.license(0, 60, 9);
        office.license(0, 20, 9);
        Checks.due("45: a chain of separation 1 with a pair of 1", 2, office::leastSpan);
        Checks.due("46: a chain of separation 1 with a pair of 1", 2, office::leastSpanByOrders);
    }
}
