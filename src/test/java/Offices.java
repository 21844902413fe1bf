/** Offices in the states that several tests start from. */
final class Offices {
    private Offices() {
    }

    static FrequencyOffice withRadii(int near, int middle, int far) {
        FrequencyOffice office = new FrequencyOffice();
        office.setRadii(near, middle, far);
        return office;
    }

    /** Every two stations have the separation 3. */
    static FrequencyOffice crowded() {
        return withRadii(200, 200, 200);
    }

    /** Every two stations have the separation 2. */
    static FrequencyOffice twoApart() {
        return withRadii(0, 200, 200);
    }

    /** Every two stations have the separation 1. */
    static FrequencyOffice oneApart() {
        return withRadii(0, 0, 200);
    }

    /** No two stations have a separation, and none disturbs another one. */
    static FrequencyOffice empty() {
        return withRadii(0, 0, 0);
    }

    /** Seven licensed stations at one point, with the ids 0 to 6. */
    static FrequencyOffice full() {
        FrequencyOffice office = empty();
        for (int i = 0; i < 7; i++) {
            office.license(50, 50, 365);
        }
        return office;
    }

    /** No station, on the day that is asked for. */
    static FrequencyOffice onDay(int day) {
        FrequencyOffice office = new FrequencyOffice();
        for (int left = day; left > 0; left -= 99) {
            office.pass(Math.min(left, 99));
        }
        return office;
    }

    /**
     * Differs from a new office in all that an office can tell: radii, day, stations of both kinds, totals,
     * complaints, a last plan with moves, the line, a snapshot, and more modifications than can be undone.
     * The stations 0, 1, 3 and 5 are licensed, 6 is on trial; 2 has expired, the trial of 4 was ended.
     */
    static FrequencyOffice busy() {
        FrequencyOffice office = new FrequencyOffice();
        office.setRadii(11, 22, 60);
        office.license(10, 10, 200);
        office.license(15, 10, 150);
        office.startTrial(99, 99, 5);
        office.save();
        office.pass(6);
        office.license(10, 15, 100);
        office.complain(1, 0);
        office.startTrial(70, 50, 30);
        office.license(70, 50, 90);
        office.startTrial(72, 50, 20);
        office.change(5, 1);
        office.change(0, 7);
        office.writeStation(1);
        return office;
    }
}
