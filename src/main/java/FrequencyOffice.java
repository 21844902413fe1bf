import java.util.NoSuchElementException;

/** A frequency office: it gives stations on a map channels that keep them out of each other's way. */
public final class FrequencyOffice {
    private static final int NONE = -1;
    private static final int MOST_STATIONS = 7;
    private static final int CHANNELS = 8;
    private static final int ALL_CHANNELS = 255;
    private static final int LAST_COORDINATE = 99;
    private static final int LAST_DAY = 999;
    private static final int LONGEST_TERM = 365;
    private static final int LONGEST_TRIAL = 30;
    private static final int LONGEST_PASS = 99;
    private static final int LARGEST_RADIUS = 200;
    private static final int MOST_COMPLAINTS = 2;
    private static final int MOST_MOVES = 2;
    private static final int MOST_UNDONE = 6;

    private final Books books;
    private final History history;
    private final Books snapshot;
    private boolean saved;
    private final Search search;
    private final Spans spans;
    private final StringBuilder line;

    public FrequencyOffice() {
        books = new Books();
        history = new History();
        snapshot = new Books();
        saved = false;
        Net net = new Net();
        search = new Search(net);
        spans = new Spans(net);
        line = new StringBuilder();
    }

    // ---- radii

    public int setRadii(int near, int middle, int far) throws IllegalArgumentException, IllegalStateException {
        checkRange(far, 0, LARGEST_RADIUS);
        checkRange(middle, 0, far);
        checkRange(near, 0, middle);
        if (books.count > 0) {
            throw new IllegalStateException("a station exists");
        }
        history.keep(books);
        int previous = books.far;
        books.near = near;
        books.middle = middle;
        books.far = far;
        return previous;
    }

    public int nearRadius() {
        return books.near;
    }

    public int middleRadius() {
        return books.middle;
    }

    public int farRadius() {
        return books.far;
    }

    // ---- stations and terms

    public int license(int x, int y, int days)
            throws IllegalArgumentException, IllegalStateException, UnsupportedOperationException {
        checkPoint(x, y);
        checkRange(days, 1, LONGEST_TERM);
        checkRoom();
        search.serveNew(books, x, y);
        findPlan();
        history.keep(books);
        int served = books.append(x, y, books.day + days, false);
        books.carryOut(search.plan, served);
        return books.lastId;
    }

    public int startTrial(int x, int y, int days)
            throws IllegalArgumentException, IllegalStateException, UnsupportedOperationException {
        checkPoint(x, y);
        checkRange(days, 1, LONGEST_TRIAL);
        checkRoom();
        int channel = books.quietestFree(x, y);
        if (channel == NONE) {
            throw new UnsupportedOperationException("every channel conflicts");
        }
        history.keep(books);
        int place = books.append(x, y, books.day + days, true);
        books.at(place).channel = channel;
        return books.lastId;
    }

    public int confirm(int id, int days)
            throws NoSuchElementException, IllegalArgumentException, IllegalStateException {
        int place = placeOf(id);
        checkRange(days, 1, LONGEST_TERM);
        if (!books.at(place).onTrial) {
            throw new IllegalStateException("the station is licensed");
        }
        history.keep(books);
        Station station = books.at(place);
        station.onTrial = false;
        station.expiry = books.day + days;
        return station.expiry;
    }

    public int renew(int id, int days)
            throws NoSuchElementException, IllegalArgumentException, IllegalStateException {
        Station station = books.at(placeOf(id));
        checkRange(days, 1, LONGEST_TERM);
        checkLicensed(station);
        if (station.expiry + days > books.day + LONGEST_TERM) {
            throw new IllegalStateException("the licence would run too long");
        }
        history.keep(books);
        station.expiry += days;
        return station.expiry;
    }

    public int close(int id) throws NoSuchElementException {
        int place = placeOf(id);
        history.keep(books);
        books.remove(place);
        return books.count;
    }

    public int pass(int days) throws IllegalArgumentException, IllegalStateException {
        checkRange(days, 1, LONGEST_PASS);
        if (books.day + days > LAST_DAY) {
            throw new IllegalStateException("the days end before");
        }
        history.keep(books);
        int before = books.expired;
        for (int passed = 0; passed < days; passed++) {
            books.nextDay();
        }
        return books.expired - before;
    }

    public int today() {
        return books.day;
    }

    public int stationCount() {
        return books.count;
    }

    public int licensedCount() {
        return books.countLicensed();
    }

    public boolean exists(int id) {
        return books.find(id) != NONE;
    }

    public int stationAt(int position) throws IndexOutOfBoundsException {
        checkPosition(position);
        return books.at(position).id;
    }

    public int stationByExpiry(int position) throws IndexOutOfBoundsException {
        checkPosition(position);
        return books.at(books.placeByExpiry(position)).id;
    }

    public int xOf(int id) throws NoSuchElementException {
        return books.at(placeOf(id)).x;
    }

    public int yOf(int id) throws NoSuchElementException {
        return books.at(placeOf(id)).y;
    }

    public int channelOf(int id) throws NoSuchElementException {
        return books.at(placeOf(id)).channel;
    }

    public int expiryOf(int id) throws NoSuchElementException {
        return books.at(placeOf(id)).expiry;
    }

    public boolean isOnTrial(int id) throws NoSuchElementException {
        return books.at(placeOf(id)).onTrial;
    }

    public int expiredTotal() {
        return books.expired;
    }

    public int endedTrials() {
        return books.ended;
    }

    // ---- separations and conflicts

    public int squaredDistance(int id, int other) throws NoSuchElementException, IllegalArgumentException {
        int place = placeOf(id);
        return books.squaredBetween(place, placeOfOther(id, other));
    }

    public int baseSeparation(int id, int other) throws NoSuchElementException, IllegalArgumentException {
        int place = placeOf(id);
        return books.baseBetween(place, placeOfOther(id, other));
    }

    public int complaintCount(int id, int other) throws NoSuchElementException, IllegalArgumentException {
        int place = placeOf(id);
        return books.complaintsBetween(place, placeOfOther(id, other));
    }

    public int separation(int id, int other) throws NoSuchElementException, IllegalArgumentException {
        int place = placeOf(id);
        return books.separationBetween(place, placeOfOther(id, other));
    }

    public int margin(int id, int other) throws NoSuchElementException, IllegalArgumentException {
        int place = placeOf(id);
        return books.marginBetween(place, placeOfOther(id, other));
    }

    public int conflictsAt(int x, int y, int channel) throws IllegalArgumentException {
        checkPoint(x, y);
        checkChannel(channel);
        return books.countConflicts(x, y, channel);
    }

    public int disturbanceAt(int x, int y, int channel) throws IllegalArgumentException {
        checkPoint(x, y);
        checkChannel(channel);
        return books.disturbance(x, y, channel, NONE);
    }

    public float meanDisturbance() throws ArithmeticException {
        int licensed = books.countLicensed();
        if (licensed == 0) {
            throw new ArithmeticException("there are no licensed stations");
        }
        return (float) books.sumOfDisturbances() / (float) licensed;
    }

    public boolean isConsistent() {
        for (int i = 0; i < books.count; i++) {
            if (books.at(i).expiry <= books.day || books.conflictsBefore(i)) {
                return false;
            }
        }
        return true;
    }

    // ---- plans

    public int openChannels(int x, int y) throws IllegalArgumentException {
        checkPoint(x, y);
        search.serveNew(books, x, y);
        return search.openToServed();
    }

    public int movesFor(int x, int y) throws IllegalArgumentException, UnsupportedOperationException {
        checkPoint(x, y);
        search.serveNew(books, x, y);
        findPlan();
        return search.plan.moves;
    }

    public int movesForByQueue(int x, int y) throws IllegalArgumentException, UnsupportedOperationException {
        checkPoint(x, y);
        search.serveNew(books, x, y);
        return movesByQueue();
    }

    public int movesToChange(int id, int channel)
            throws NoSuchElementException, IllegalArgumentException, IllegalStateException,
            UnsupportedOperationException {
        int place = placeOf(id);
        checkChange(place, channel);
        search.serveChange(books, place, channel);
        findPlan();
        return search.plan.moves;
    }

    public int movesToChangeByQueue(int id, int channel)
            throws NoSuchElementException, IllegalArgumentException, IllegalStateException,
            UnsupportedOperationException {
        int place = placeOf(id);
        checkChange(place, channel);
        search.serveChange(books, place, channel);
        return movesByQueue();
    }

    public int change(int id, int channel)
            throws NoSuchElementException, IllegalArgumentException, IllegalStateException,
            UnsupportedOperationException {
        int place = placeOf(id);
        checkChange(place, channel);
        search.serveChange(books, place, channel);
        findPlan();
        history.keep(books);
        books.carryOut(search.plan, place);
        return search.plan.moves;
    }

    public int complain(int id, int other)
            throws NoSuchElementException, IllegalArgumentException, IllegalStateException,
            UnsupportedOperationException {
        int place = placeOf(id);
        int served = placeOfOther(id, other);
        checkComplaint(place, served);
        if (books.marginBetween(place, served) > 0) {
            history.keep(books);
            books.addComplaint(place, served);
            return 0;
        }
        search.serveComplaint(books, id, served);
        findPlan();
        history.keep(books);
        books.addComplaint(place, served);
        books.carryOut(search.plan, served);
        return search.plan.moves + 1;
    }

    public int moveCount() throws NoSuchElementException {
        if (books.lastPlan.moves == NONE) {
            throw new NoSuchElementException("there was no plan so far");
        }
        return books.lastPlan.moves;
    }

    public int movedStation(int move) throws NoSuchElementException {
        checkMove(move);
        return get(books.lastPlan.ids, move);
    }

    public int movedFrom(int move) throws NoSuchElementException {
        checkMove(move);
        return get(books.lastPlan.from, move);
    }

    public int movedTo(int move) throws NoSuchElementException {
        checkMove(move);
        return get(books.lastPlan.to, move);
    }

    // ---- spans

    public int leastSpan() {
        spans.net.load(books, NONE);
        return spans.leastByNumbers();
    }

    public int leastSpanByOrders() {
        spans.net.load(books, NONE);
        return spans.leastByOrders();
    }

    public int usedSpan() {
        int lowest = CHANNELS;
        int highest = NONE;
        for (int i = 0; i < books.count; i++) {
            Station station = books.at(i);
            if (!station.onTrial) {
                lowest = Math.min(lowest, station.channel);
                highest = Math.max(highest, station.channel);
            }
        }
        return highest == NONE ? 0 : highest - lowest + 1;
    }

    // ---- line, undo and snapshots

    public int writeStation(int id) throws NoSuchElementException {
        Station station = books.at(placeOf(id));
        line.setLength(0);
        line.append(station.id).append('@').append(station.x).append(',').append(station.y);
        line.append(" c").append(station.channel);
        line.append(station.onTrial ? " T" : " L").append(station.expiry);
        return line.length();
    }

    public char lineAt(int index) throws IndexOutOfBoundsException {
        if (index < 0 || index >= line.length()) {
            throw new IndexOutOfBoundsException("there is no such character");
        }
        return line.charAt(index);
    }

    public int undo() throws IllegalStateException {
        if (history.kept == 0) {
            throw new IllegalStateException("nothing can be undone");
        }
        history.giveBack(books);
        return history.kept;
    }

    public int save() {
        snapshot.take(books);
        saved = true;
        return books.count;
    }

    public int restore() throws IllegalStateException {
        if (!saved) {
            throw new IllegalStateException("there is no snapshot");
        }
        books.take(snapshot);
        history.forget();
        return books.count;
    }

    // ---- checks

    private static void checkRange(int value, int low, int high) {
        if (value < low || value > high) {
            throw new IllegalArgumentException("an argument is out of range");
        }
    }

    private static void checkPoint(int x, int y) {
        checkRange(x, 0, LAST_COORDINATE);
        checkRange(y, 0, LAST_COORDINATE);
    }

    private static void checkChannel(int channel) {
        checkRange(channel, 0, CHANNELS - 1);
    }

    private static void checkLicensed(Station station) {
        if (station.onTrial) {
            throw new IllegalStateException("the station is on trial");
        }
    }

    private void checkRoom() {
        if (books.count >= MOST_STATIONS) {
            throw new IllegalStateException("there is no room for a station");
        }
    }

    private void checkPosition(int position) {
        if (position < 0 || position >= books.count) {
            throw new IndexOutOfBoundsException("there is no such position");
        }
    }

    private void checkMove(int move) {
        if (move < 0 || move >= books.lastPlan.moves) {
            throw new NoSuchElementException("there is no such move");
        }
    }

    private void checkChange(int place, int channel) {
        checkChannel(channel);
        Station station = books.at(place);
        checkLicensed(station);
        if (station.channel == channel) {
            throw new IllegalStateException("the station has this channel");
        }
    }

    private void checkComplaint(int place, int other) {
        checkLicensed(books.at(place));
        checkLicensed(books.at(other));
        if (books.baseBetween(place, other) == 0) {
            throw new IllegalStateException("the stations are too far apart");
        }
        if (books.complaintsBetween(place, other) >= MOST_COMPLAINTS) {
            throw new IllegalStateException("no more complaints are upheld");
        }
    }

    private int placeOf(int id) {
        int place = books.find(id);
        if (place == NONE) {
            throw new NoSuchElementException("no station has this id");
        }
        return place;
    }

    private int placeOfOther(int id, int other) {
        int place = placeOf(other);
        if (id == other) {
            throw new IllegalArgumentException("both ids are the same");
        }
        return place;
    }

    // ---- making plans

    private void findPlan() {
        if (!search.findByOrder()) {
            throw new UnsupportedOperationException("there is no plan");
        }
    }

    private int movesByQueue() {
        int moves = search.leastByQueue();
        if (moves == NONE) {
            throw new UnsupportedOperationException("there is no plan");
        }
        return moves;
    }

    // ---- rows and channels

    private static int get(int[] row, int index) {
        return index >= 0 && index < row.length ? row[index] : 0;
    }

    private static void put(int[] row, int index, int value) {
        if (index >= 0 && index < row.length) {
            row[index] = value;
        }
    }

    /** The place of a pair in a row of MOST_STATIONS times MOST_STATIONS elements, NONE if there is none. */
    private static int pair(int i, int j) {
        boolean inside = i >= 0 && i < MOST_STATIONS && j >= 0 && j < MOST_STATIONS;
        return inside ? i * MOST_STATIONS + j : NONE;
    }

    private static boolean contains(long bits, int bit) {
        return ((bits >> bit) & 1L) == 1L;
    }

    /** The channels whose difference from a channel is less than a separation, as bits. */
    private static long shutBy(int channel, int separation) {
        if (separation <= 0) {
            return 0L;
        }
        int lowest = Math.max(0, channel - separation + 1);
        int highest = channel + separation - 1;
        return ((1L << (highest - lowest + 1)) - 1L) << lowest;
    }

    private static int disturbs(int channel, int other) {
        return Math.max(0, 4 - Math.abs(channel - other));
    }

    /** A station in the books. */
    private static final class Station {
        private int id;
        private int x;
        private int y;
        private int channel;
        private int expiry;
        private boolean onTrial;

        private void take(Station other) {
            id = other.id;
            x = other.x;
            y = other.y;
            channel = other.channel;
            expiry = other.expiry;
            onTrial = other.onTrial;
        }

        private int squaredTo(int otherX, int otherY) {
            return (x - otherX) * (x - otherX) + (y - otherY) * (y - otherY);
        }
    }

    /** The moves of a plan and the channel of the station that it serves. */
    private static final class Plan {
        private int moves = NONE;
        private int channel = NONE;
        private final int[] ids = new int[MOST_MOVES];
        private final int[] from = new int[MOST_MOVES];
        private final int[] to = new int[MOST_MOVES];

        private void take(Plan other) {
            moves = other.moves;
            channel = other.channel;
            System.arraycopy(other.ids, 0, ids, 0, MOST_MOVES);
            System.arraycopy(other.from, 0, from, 0, MOST_MOVES);
            System.arraycopy(other.to, 0, to, 0, MOST_MOVES);
        }

        private void setMove(int move, int id, int oldChannel, int newChannel) {
            put(ids, move, id);
            put(from, move, oldChannel);
            put(to, move, newChannel);
        }
    }

    /** All that undo and restore bring back. The stations stand in the ascending order of their ids. */
    private static final class Books {
        private int near = 10;
        private int middle = 20;
        private int far = 40;
        private int day = 0;
        private int lastId = NONE;
        private int expired = 0;
        private int ended = 0;
        private int count = 0;
        private final Station[] stations = new Station[MOST_STATIONS];
        /** Stands in for a station where there is none, so that no place ever answers null. */
        private final Station nobody = new Station();
        private final int[] complaints = new int[MOST_STATIONS * MOST_STATIONS];
        private final Plan lastPlan = new Plan();

        private Books() {
            for (int i = 0; i < stations.length; i++) {
                stations[i] = new Station();
            }
        }

        private void take(Books other) {
            near = other.near;
            middle = other.middle;
            far = other.far;
            day = other.day;
            lastId = other.lastId;
            expired = other.expired;
            ended = other.ended;
            count = other.count;
            for (int i = 0; i < count; i++) {
                at(i).take(other.at(i));
            }
            System.arraycopy(other.complaints, 0, complaints, 0, MOST_STATIONS * MOST_STATIONS);
            lastPlan.take(other.lastPlan);
        }

        private Station at(int place) {
            if (place < 0 || place >= stations.length) {
                return nobody;
            }
            Station station = stations[place];
            return station == null ? nobody : station;
        }

        private int find(int id) {
            for (int i = 0; i < count; i++) {
                if (at(i).id == id) {
                    return i;
                }
            }
            return NONE;
        }

        private int append(int x, int y, int expiry, boolean onTrial) {
            int place = count;
            lastId++;
            Station station = at(place);
            station.id = lastId;
            station.x = x;
            station.y = y;
            station.expiry = expiry;
            station.onTrial = onTrial;
            count++;
            return place;
        }

        private void remove(int place) {
            for (int i = place; i < count - 1; i++) {
                at(i).take(at(i + 1));
            }
            removeComplaints(place);
            count--;
        }

        private void removeComplaints(int place) {
            for (int i = 0; i < MOST_STATIONS; i++) {
                for (int j = 0; j < MOST_STATIONS; j++) {
                    int number = complaintsBetween(i < place ? i : i + 1, j < place ? j : j + 1);
                    put(complaints, pair(i, j), number);
                }
            }
        }

        private void nextDay() {
            day++;
            for (int i = count - 1; i >= 0; i--) {
                if (at(i).expiry == day) {
                    remove(i);
                    expired++;
                }
            }
        }

        private int countLicensed() {
            int licensed = 0;
            for (int i = 0; i < count; i++) {
                licensed += at(i).onTrial ? 0 : 1;
            }
            return licensed;
        }

        private int placeByExpiry(int position) {
            for (int i = 0; i < count; i++) {
                if (countEarlier(i) == position) {
                    return i;
                }
            }
            return NONE;
        }

        private int countEarlier(int place) {
            int expiry = at(place).expiry;
            int earlier = 0;
            for (int i = 0; i < count; i++) {
                boolean before = at(i).expiry < expiry || at(i).expiry == expiry && i < place;
                earlier += before ? 1 : 0;
            }
            return earlier;
        }

        private int baseAt(int squared) {
            if (squared < near * near) {
                return 3;
            }
            if (squared < middle * middle) {
                return 2;
            }
            return squared < far * far ? 1 : 0;
        }

        private int squaredBetween(int i, int j) {
            return at(i).squaredTo(at(j).x, at(j).y);
        }

        private int baseBetween(int i, int j) {
            return baseAt(at(i).squaredTo(at(j).x, at(j).y));
        }

        private int complaintsBetween(int i, int j) {
            return get(complaints, pair(i, j));
        }

        private void addComplaint(int i, int j) {
            int number = complaintsBetween(i, j) + 1;
            put(complaints, pair(i, j), number);
            put(complaints, pair(j, i), number);
        }

        private int separationBetween(int i, int j) {
            return baseBetween(i, j) + complaintsBetween(i, j);
        }

        private int marginBetween(int i, int j) {
            return Math.abs(at(i).channel - at(j).channel) - separationBetween(i, j);
        }

        private boolean conflictsBefore(int place) {
            for (int i = 0; i < place; i++) {
                if (marginBetween(i, place) < 0) {
                    return true;
                }
            }
            return false;
        }

        private boolean conflictsWithLicensed(int place) {
            for (int i = 0; i < count; i++) {
                if (i != place && !at(i).onTrial && marginBetween(i, place) < 0) {
                    return true;
                }
            }
            return false;
        }

        private int countConflicts(int x, int y, int channel) {
            int conflicts = 0;
            for (int i = 0; i < count; i++) {
                int base = baseAt(at(i).squaredTo(x, y));
                conflicts += Math.abs(at(i).channel - channel) < base ? 1 : 0;
            }
            return conflicts;
        }

        private int disturbance(int x, int y, int channel, int except) {
            int sum = 0;
            for (int i = 0; i < count; i++) {
                Station station = at(i);
                if (i != except && !station.onTrial && station.squaredTo(x, y) < far * far) {
                    sum += disturbs(station.channel, channel);
                }
            }
            return sum;
        }

        private int sumOfDisturbances() {
            int sum = 0;
            for (int i = 0; i < count; i++) {
                Station station = at(i);
                if (!station.onTrial) {
                    sum += disturbance(station.x, station.y, station.channel, i);
                }
            }
            return sum;
        }

        private int quietestFree(int x, int y) {
            int best = NONE;
            int least = 0;
            for (int channel = 0; channel < CHANNELS; channel++) {
                int disturbance = disturbance(x, y, channel, NONE);
                boolean better = best == NONE || disturbance < least;
                if (better && countConflicts(x, y, channel) == 0) {
                    best = channel;
                    least = disturbance;
                }
            }
            return best;
        }

        private void carryOut(Plan plan, int served) {
            for (int move = 0; move < plan.moves; move++) {
                at(find(get(plan.ids, move))).channel = get(plan.to, move);
            }
            at(served).channel = plan.channel;
            lastPlan.take(plan);
            for (int i = count - 1; i >= 0; i--) {
                if (at(i).onTrial && conflictsWithLicensed(i)) {
                    remove(i);
                    ended++;
                }
            }
        }
    }

    /** The books before each of the last modifications, in a ring. */
    private static final class History {
        private final Books[] past = new Books[MOST_UNDONE];
        private int next = 0;
        private int kept = 0;

        private History() {
            for (int i = 0; i < past.length; i++) {
                past[i] = new Books();
            }
        }

        private void keep(Books books) {
            Books place = pastAt(next);
            if (place != null) {
                place.take(books);
            }
            next = next >= MOST_UNDONE - 1 ? 0 : next + 1;
            kept = Math.min(kept + 1, MOST_UNDONE);
        }

        private void giveBack(Books books) {
            next = next <= 0 ? MOST_UNDONE - 1 : next - 1;
            kept--;
            Books before = pastAt(next);
            if (before != null) {
                books.take(before);
            }
        }

        private void forget() {
            kept = 0;
        }

        private Books pastAt(int index) {
            return index >= 0 && index < past.length ? past[index] : null;
        }
    }

    /** Licensed stations, the channels that they have for the time being, and their separations. */
    private static final class Net {
        private int size = 0;
        private final int[] places = new int[MOST_STATIONS];
        private final int[] ids = new int[MOST_STATIONS];
        private final int[] channels = new int[MOST_STATIONS];
        private final int[] separations = new int[MOST_STATIONS * MOST_STATIONS];

        private void load(Books books, int except) {
            size = 0;
            for (int place = 0; place < books.count; place++) {
                if (place != except && !books.at(place).onTrial) {
                    append(books, place);
                }
            }
        }

        private void append(Books books, int place) {
            for (int k = 0; k < size; k++) {
                int separation = books.separationBetween(get(places, k), place);
                put(separations, pair(k, size), separation);
                put(separations, pair(size, k), separation);
            }
            put(places, size, place);
            put(ids, size, books.at(place).id);
            put(channels, size, books.at(place).channel);
            size++;
        }

        private int apart(int k, int other) {
            return get(separations, pair(k, other));
        }

        private int sumOfSeparations(int k) {
            int sum = 0;
            for (int other = 0; other < size; other++) {
                sum += other == k ? 0 : apart(k, other);
            }
            return sum;
        }

        private int openTo(int k) {
            long shut = 0L;
            for (int other = 0; other < size; other++) {
                if (other != k) {
                    shut |= shutBy(get(channels, other), apart(k, other));
                }
            }
            return (int) (~shut & ALL_CHANNELS);
        }
    }

    /** Looks for the plan that serves one station. */
    private static final class Search {
        private static final int MOST_STEPS = MOST_STATIONS * (CHANNELS - 1);

        private final Net net;
        private final Plan plan = new Plan();
        private final int[] servedSeparations = new int[MOST_STATIONS];
        private final boolean[] heard = new boolean[MOST_STATIONS];
        private final int[] queue = new int[1 + MOST_STEPS + MOST_STEPS * MOST_STEPS];
        private int wanted = ALL_CHANNELS;
        private int held = NONE;

        private Search(Net licensed) {
            net = licensed;
        }

        private void serveNew(Books books, int x, int y) {
            wanted = ALL_CHANNELS;
            held = NONE;
            net.load(books, NONE);
            for (int k = 0; k < net.size; k++) {
                int squared = books.at(get(net.places, k)).squaredTo(x, y);
                setServed(k, books.baseAt(squared), squared < books.far * books.far);
            }
        }

        private void serveChange(Books books, int served, int channel) {
            net.load(books, served);
            serveLicensed(books, served);
            wanted = 1 << channel;
        }

        private void serveComplaint(Books books, int complaining, int served) {
            net.load(books, served);
            serveLicensed(books, served);
            for (int k = 0; k < net.size; k++) {
                if (get(net.ids, k) == complaining) {
                    held = k;
                    put(servedSeparations, k, get(servedSeparations, k) + 1);
                }
            }
        }

        private void serveLicensed(Books books, int served) {
            wanted = ALL_CHANNELS;
            held = NONE;
            for (int k = 0; k < net.size; k++) {
                int place = get(net.places, k);
                boolean inReach = books.squaredBetween(place, served) < books.far * books.far;
                setServed(k, books.separationBetween(place, served), inReach);
            }
        }

        private void setServed(int k, int separation, boolean inReach) {
            put(servedSeparations, k, separation);
            if (k >= 0 && k < heard.length) {
                heard[k] = inReach;
            }
        }

        private boolean hears(int k) {
            return k >= 0 && k < heard.length && heard[k];
        }

        private int openToServed() {
            long shut = 0L;
            for (int k = 0; k < net.size; k++) {
                shut |= shutBy(get(net.channels, k), get(servedSeparations, k));
            }
            return (int) (~shut & wanted);
        }

        private int disturbanceOfServed(int channel) {
            int sum = 0;
            for (int k = 0; k < net.size; k++) {
                sum += hears(k) ? disturbs(get(net.channels, k), channel) : 0;
            }
            return sum;
        }

        /** Goes through the plans from the best one on, so that the first one found is the best. */
        private boolean findByOrder() {
            for (int moves = 0; moves <= MOST_MOVES; moves++) {
                plan.moves = moves;
                if (tryMoves(this, 0)) {
                    return true;
                }
            }
            return false;
        }

        private static boolean tryMoves(Search search, int made) {
            if (made >= search.plan.moves) {
                return search.chooseChannel();
            }
            for (int k = 0; k < search.net.size; k++) {
                if (k != search.held && tryMovesOf(search, k, made)) {
                    return true;
                }
            }
            return false;
        }

        private static boolean tryMovesOf(Search search, int k, int made) {
            int[] channels = search.net.channels;
            int from = get(channels, k);
            int open = search.net.openTo(k) & ~(1 << from);
            boolean found = false;
            for (int to = 0; to < CHANNELS && !found; to++) {
                if (contains(open, to)) {
                    search.plan.setMove(made, get(search.net.ids, k), from, to);
                    put(channels, k, to);
                    found = tryMoves(search, made + 1);
                }
            }
            put(channels, k, from);
            return found;
        }

        private boolean chooseChannel() {
            int open = openToServed();
            int least = 0;
            plan.channel = NONE;
            for (int channel = 0; channel < CHANNELS; channel++) {
                if (contains(open, channel)) {
                    int disturbance = disturbanceOfServed(channel);
                    if (plan.channel == NONE || disturbance < least) {
                        plan.channel = channel;
                        least = disturbance;
                    }
                }
            }
            return plan.channel != NONE;
        }

        /** The least number of moves, NONE if there is no plan. */
        private int leastByQueue() {
            put(queue, 0, pack());
            int end = 1;
            int moves = 0;
            int endOfMoves = 1;
            for (int head = 0; head < queue.length && head < end; head++) {
                if (head == endOfMoves) {
                    moves++;
                    endOfMoves = end;
                }
                unpack(get(queue, head));
                if (openToServed() != 0) {
                    return moves;
                }
                if (moves < MOST_MOVES) {
                    end = enqueueMoves(end);
                }
            }
            return NONE;
        }

        private int enqueueMoves(int end) {
            int newEnd = end;
            for (int k = 0; k < net.size; k++) {
                int from = get(net.channels, k);
                int open = k == held ? 0 : net.openTo(k) & ~(1 << from);
                for (int to = 0; to < CHANNELS; to++) {
                    if (contains(open, to)) {
                        put(net.channels, k, to);
                        put(queue, newEnd, pack());
                        newEnd++;
                    }
                }
                put(net.channels, k, from);
            }
            return newEnd;
        }

        private int pack() {
            int packed = 0;
            for (int k = 0; k < net.size; k++) {
                packed = packed * CHANNELS + get(net.channels, k);
            }
            return packed;
        }

        private void unpack(int packed) {
            int rest = packed;
            for (int k = net.size - 1; k >= 0; k--) {
                put(net.channels, k, rest % CHANNELS);
                rest /= CHANNELS;
            }
        }
    }

    /** Looks for the least number of channels that the licensed stations need. */
    private static final class Spans {
        /** No separation is above 5, so that channels 5 apart are enough for all. */
        private static final int ENOUGH = 5 * (MOST_STATIONS - 1) + 1;
        /** Stays above every channel of an order: each station before shuts 9 channels at most. */
        private static final int ABOVE_ALL = 9 * (MOST_STATIONS - 1) + 2;

        private final Net net;
        private final int[] bySeparations = new int[MOST_STATIONS];
        /** What the first stations with channels shut to each other station: a row for each number of them. */
        private final long[] shut = new long[MOST_STATIONS * MOST_STATIONS];

        private Spans(Net licensed) {
            net = licensed;
        }

        private int leastByNumbers() {
            sortBySeparations();
            for (int number = 0; number < ENOUGH; number++) {
                if (assign(this, 0, 0, number)) {
                    return number;
                }
            }
            return ENOUGH;
        }

        /** The most bound stations go first, since a number that is too low fails soonest at them. */
        private void sortBySeparations() {
            for (int k = 0; k < net.size; k++) {
                int place = k;
                while (place > 0 && net.sumOfSeparations(get(bySeparations, place - 1)) < net.sumOfSeparations(k)) {
                    put(bySeparations, place, get(bySeparations, place - 1));
                    place--;
                }
                put(bySeparations, place, k);
            }
        }

        /** The stations of the bits of placed have their channels. */
        private static boolean assign(Spans spans, int depth, int placed, int number) {
            if (depth >= spans.net.size) {
                return true;
            }
            int k = get(spans.bySeparations, depth);
            long shutTo = spans.shutTo(depth, k);
            for (int channel = 0; channel < number; channel++) {
                if (!contains(shutTo, channel)) {
                    spans.place(k, channel, depth, placed);
                    if (assign(spans, depth + 1, placed | 1 << k, number)) {
                        return true;
                    }
                }
            }
            return false;
        }

        private int leastByOrders() {
            return leastFrom(this, 0, 0, 0);
        }

        /** The stations of the bits of placed have their channels, which need a number of channels. */
        private static int leastFrom(Spans spans, int depth, int placed, int number) {
            if (depth >= spans.net.size) {
                return number;
            }
            int least = ABOVE_ALL;
            for (int k = 0; k < spans.net.size; k++) {
                if (!contains(placed, k)) {
                    int channel = lowestOpen(spans.shutTo(depth, k));
                    spans.place(k, channel, depth, placed);
                    int needed = Math.max(number, channel + 1);
                    least = Math.min(least, leastFrom(spans, depth + 1, placed | 1 << k, needed));
                }
            }
            return least;
        }

        private static int lowestOpen(long shutTo) {
            long lowestOpenBit = ~shutTo & (shutTo + 1L);
            return Long.bitCount(lowestOpenBit - 1L);
        }

        /** Gives a station a channel, and tells those that have none yet, in the row after this one. */
        private void place(int k, int channel, int depth, int placed) {
            for (int other = 0; other < net.size; other++) {
                if (other != k && !contains(placed, other)) {
                    long shutNow = shutTo(depth, other) | shutBy(channel, net.apart(k, other));
                    putShut(depth + 1, other, shutNow);
                }
            }
        }

        private long shutTo(int depth, int k) {
            int index = pair(depth, k);
            return index >= 0 && index < shut.length ? shut[index] : 0L;
        }

        private void putShut(int depth, int k, long channels) {
            int index = pair(depth, k);
            if (index >= 0 && index < shut.length) {
                shut[index] = channels;
            }
        }
    }
}
