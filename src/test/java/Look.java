import java.util.NoSuchElementException;

/** Tells all that can be told of an office, as a text, so that two states can be compared. */
final class Look {
    /** Makes the same office anew each time, since to look at its past changes it. */
    interface Made {
        FrequencyOffice office();
    }

    private static final int MORE_THAN_CAN_BE_UNDONE = 8;

    private Look() {
    }

    /** What the office answers now; the look changes nothing, not even the line. */
    static String at(FrequencyOffice office) {
        StringBuilder text = new StringBuilder();
        text.append("radii ").append(office.nearRadius()).append(' ').append(office.middleRadius());
        text.append(' ').append(office.farRadius()).append("\nday ").append(office.today());
        text.append("\nstations ").append(office.stationCount());
        text.append(" licensed ").append(office.licensedCount()).append('\n');
        for (int i = 0; i < office.stationCount(); i++) {
            appendStation(text, office, office.stationAt(i));
        }
        text.append("by expiry");
        for (int i = 0; i < office.stationCount(); i++) {
            text.append(' ').append(office.stationByExpiry(i));
        }
        text.append("\nexpired ").append(office.expiredTotal()).append(" ended ").append(office.endedTrials());
        text.append("\nconsistent ").append(office.isConsistent()).append('\n');
        appendPlan(text, office);
        appendLine(text, office);
        return text.toString();
    }

    /** What the office answers now, after each undo, after a restore, and the id that it gives next. */
    static String all(Made made) {
        StringBuilder text = new StringBuilder();
        FrequencyOffice undone = made.office();
        text.append(at(undone));
        for (int i = 0; i < MORE_THAN_CAN_BE_UNDONE; i++) {
            appendUndone(text, undone);
        }
        FrequencyOffice restored = made.office();
        appendRestored(text, restored);
        appendUndone(text, restored);
        appendNextId(text, made.office());
        return text.toString();
    }

    private static void appendStation(StringBuilder text, FrequencyOffice office, int id) {
        text.append("station ").append(id).append(" at ").append(office.xOf(id)).append(',').append(office.yOf(id));
        text.append(" channel ").append(office.channelOf(id)).append(" until ").append(office.expiryOf(id));
        text.append(office.isOnTrial(id) ? " on trial" : " licensed").append(" separations");
        for (int i = 0; i < office.stationCount(); i++) {
            int other = office.stationAt(i);
            if (other != id) {
                text.append(' ').append(office.baseSeparation(id, other));
                text.append('+').append(office.complaintCount(id, other));
            }
        }
        text.append('\n');
    }

    private static void appendPlan(StringBuilder text, FrequencyOffice office) {
        try {
            int moves = office.moveCount();
            text.append("moves");
            for (int move = 0; move < moves; move++) {
                text.append(' ').append(office.movedStation(move)).append(':').append(office.movedFrom(move));
                text.append('-').append(office.movedTo(move));
            }
        } catch (NoSuchElementException none) {
            text.append("no plan");
        }
        text.append('\n');
    }

    private static void appendLine(StringBuilder text, FrequencyOffice office) {
        text.append("line ");
        try {
            for (int i = 0; i < 100; i++) {
                text.append(office.lineAt(i));
            }
        } catch (IndexOutOfBoundsException end) {
            text.append('\n');
        }
    }

    private static void appendUndone(StringBuilder text, FrequencyOffice office) {
        try {
            text.append("undo leaves ").append(office.undo()).append('\n').append(at(office));
        } catch (IllegalStateException none) {
            text.append("nothing to undo\n");
        }
    }

    private static void appendRestored(StringBuilder text, FrequencyOffice office) {
        try {
            text.append("restored ").append(office.restore()).append('\n').append(at(office));
        } catch (IllegalStateException none) {
            text.append("no snapshot\n");
        }
    }

    private static void appendNextId(StringBuilder text, FrequencyOffice office) {
        for (int left = office.stationCount(); left > 0; left--) {
            office.close(office.stationAt(0));
        }
        text.append("next id ").append(office.license(0, 0, 1)).append('\n');
    }
}
