import java.util.NoSuchElementException;

/** Rain by the owner: the document of the project says, promise by promise, what each call answers. */
public final class OwnedClouds {
    public static final int NONE = -1;

    private static final int HOURS = 50;
    private static final int LAST_HOUR = HOURS - 1;
    private static final int OWNERS = 8;
    private static final int NOBODY = 7;
    private static final int FARMERS = 7;
    private static final int MOST_TAPE = 600;
    private static final int MOST_CLOUDS = 8;
    private static final int MOST_FIELDS = 12;
    private static final int MOST_GLACIERS = 3;
    private static final int MOST_IMAGES = 3;
    private static final int MOST_SHARED = 6;
    private static final int MOST_WATER = 9999;
    /** A CELL is kept as SIDE times Y, and X: the widest SKY has as many across. */
    private static final int SIDE = 8;

    private final Row tape;
    private int tapeBytes;
    private final Sky sky;
    private final SkyReader reader;
    private int faultPlace;
    private final Book book;
    private final Book[] images;
    private int imageCount;
    private final Day hours;
    private final Worth values;
    private final Market market;
    private final Guess guess;

    public OwnedClouds() {
        tape = new Row(MOST_TAPE);
        tapeBytes = 0;
        sky = new Sky();
        reader = new SkyReader(tape);
        faultPlace = NONE;
        book = new Book();
        images = new Book[MOST_IMAGES];
        for (int i = 0; i < MOST_IMAGES && i < images.length; i++) {
            images[i] = new Book();
        }
        imageCount = 0;
        hours = new Day(sky, book);
        values = new Worth(sky);
        market = new Market(sky, book);
        guess = new Guess(sky, book);
    }

    public int feed(int a, int b, int c, int d, int e) {
        if (tapeBytes + 20 > MOST_TAPE) {
            return NONE;
        }
        putNumber(a);
        putNumber(b);
        putNumber(c);
        putNumber(d);
        putNumber(e);
        return tapeBytes;
    }

    public int sky(int n) throws IllegalArgumentException {
        need(n >= 0 && n <= tapeBytes);
        tapeBytes = 0;
        int fault = reader.read(n);
        faultPlace = reader.faultPlace();
        if (fault != 0) {
            return fault - 10;
        }
        sky.copyFrom(reader.draft());
        book.wipe();
        imageCount = 0;
        return sky.clouds.size();
    }

    public int fault() {
        return faultPlace;
    }

    public int told(int what) throws IllegalArgumentException {
        need(what >= 0 && what < Sky.FACTS);
        return sky.fact(what);
    }

    public int owner(int cloud) throws NoSuchElementException {
        needCloud(cloud);
        return sky.clouds.get(cloud, Sky.OWNER);
    }

    public int path(int cloud, int hour) throws NoSuchElementException, IllegalArgumentException {
        needCloud(cloud);
        need(isHour(hour));
        return placeOf(sky.trails.get(cloud, hour));
    }

    public int field(int field, int what) throws IndexOutOfBoundsException, IllegalArgumentException {
        needField(field);
        need(what >= 0 && what < Sky.FIELD_COLUMNS);
        return sky.fields.get(field, what);
    }

    public int order(int hour, int cloud, int kind, int n) throws NoSuchElementException, IllegalArgumentException {
        needCloud(cloud);
        need(isHour(hour) && Book.isOrder(kind, n));
        return book.giveOrder(hour, cloud, kind, n);
    }

    public int clear() {
        int gone = book.orders.size();
        book.orders.empty();
        return gone;
    }

    public int day(int seed, int what) throws IllegalArgumentException {
        need(what >= 0 && what <= 7);
        hours.run(seed, LAST_HOUR);
        return hours.total(what);
    }

    public int cloud(int seed, int cloud, int hour, int what) throws NoSuchElementException, IllegalArgumentException {
        needCloud(cloud);
        need(isHour(hour) && what >= 0 && what <= 2);
        hours.run(seed, hour);
        if (!hours.isThere(cloud)) {
            return NONE;
        }
        switch (what) {
            case 0: return hours.parts.sum(cloud);
            case 1: return hours.parts.mostIn(cloud);
            default: return placeOf(hours.cells.get(cloud));
        }
    }

    public int part(int seed, int cloud, int hour, int owner) throws NoSuchElementException, IllegalArgumentException {
        needCloud(cloud);
        need(isHour(hour) && isOwner(owner));
        hours.run(seed, hour);
        return hours.isThere(cloud) ? hours.parts.get(cloud, owner) : 0;
    }

    public int account(int seed, int owner, int what) throws IllegalArgumentException {
        need(isOwner(owner) && what >= 0 && what <= 2);
        hours.run(seed, LAST_HOUR);
        return hours.ground.accounts.get(owner, what);
    }

    public int farmer(int seed, int farmer, int what) throws IllegalArgumentException {
        need(isFarmer(farmer) && isEither(what));
        hours.run(seed, LAST_HOUR);
        return hours.ground.farmers.get(farmer, what);
    }

    public int after(int seed, int field, int what) throws IndexOutOfBoundsException, IllegalArgumentException {
        needField(field);
        need(what >= 0 && what <= 2);
        hours.run(seed, LAST_HOUR);
        return hours.ground.fields.get(field, what);
    }

    public int worth(int clouds) throws IllegalArgumentException {
        need(clouds >>> sky.clouds.size() == 0);
        values.measure();
        return values.of(clouds);
    }

    public long share(int cloud, int what) throws NoSuchElementException, IllegalArgumentException {
        needCloud(cloud);
        need(isEither(what));
        if (sky.clouds.size() > MOST_SHARED) {
            return NONE;
        }
        values.shareOut(cloud);
        return what == 0 ? values.above() : values.below();
    }

    public int bid(int farmer, int many, int price) throws IllegalArgumentException {
        need(isFarmer(farmer) && many >= 1 && many <= 999 && price >= 0 && price <= 99);
        return book.takeBid(farmer, many, price);
    }

    public int forget() {
        int gone = book.bids.size();
        book.bids.empty();
        return gone;
    }

    public int gets(int water, int i) throws IndexOutOfBoundsException, IllegalArgumentException {
        if (i < 0 || i >= book.bids.size()) {
            throw new IndexOutOfBoundsException("no such bid");
        }
        need(isWater(water));
        market.serve(water);
        return market.served.get(i);
    }

    public int settled(int water, int what) throws IllegalArgumentException {
        need(isWater(water) && isEither(what));
        market.serve(water);
        return what == 0 ? market.price() : market.allPay();
    }

    public int drought(int water, int field) throws IndexOutOfBoundsException, IllegalArgumentException {
        needField(field);
        need(isWater(water));
        market.ration(water);
        return market.rations.get(field);
    }

    public int gauge(int x, int y, int fell) throws IllegalArgumentException {
        need(x >= 0 && x < sky.fact(Sky.WIDTH) && y >= 0 && y < sky.fact(Sky.HEIGHT) && isWater(fell));
        return book.setGauge(x, y, fell);
    }

    public int away() {
        int gone = book.gauges.size();
        book.gauges.empty();
        return gone;
    }

    public int explain(int what) throws IllegalArgumentException {
        need(what >= 0 && what <= 2);
        if (what == 2) {
            return guess.liar();
        }
        guess.search(NONE);
        return what == 0 ? guess.ways() : guess.sure();
    }

    public long doubt(int cloud, int hour) throws NoSuchElementException, IllegalArgumentException {
        needCloud(cloud);
        need(isHour(hour));
        return sky.reach(cloud, hour);
    }

    public int worst(int cloud, int hour) throws NoSuchElementException, IllegalArgumentException {
        needCloud(cloud);
        need(isHour(hour));
        return sky.dearestIn(sky.reach(cloud, hour));
    }

    public int image() {
        if (imageCount < 0 || imageCount >= MOST_IMAGES || imageCount >= images.length) {
            return NONE;
        }
        Book next = images[imageCount];
        if (next == null) {
            return NONE;
        }
        next.copyFrom(book);
        imageCount++;
        return imageCount;
    }

    public int restore() {
        int latest = imageCount - 1;
        if (latest < 0 || latest >= images.length) {
            return NONE;
        }
        Book kept = images[latest];
        if (kept == null) {
            return NONE;
        }
        book.copyFrom(kept);
        imageCount = latest;
        return imageCount;
    }

    public int count(int what) {
        switch (what) {
            case 0: return book.orders.size();
            case 1: return book.bids.size();
            case 2: return book.gauges.size();
            case 3: return imageCount;
            case 4: return tapeBytes;
            default: return NONE;
        }
    }

    private void putNumber(int number) {
        for (int shift = 24; shift >= 0; shift -= 8) {
            tape.set(tapeBytes, (number >>> shift) & 255);
            tapeBytes++;
        }
    }

    private static void need(boolean right) {
        if (!right) {
            throw new IllegalArgumentException("a number that the call does not take");
        }
    }

    private void needCloud(int cloud) {
        if (cloud < 0 || cloud >= sky.clouds.size()) {
            throw new NoSuchElementException("no such cloud");
        }
    }

    private void needField(int field) {
        if (field < 0 || field >= sky.fields.size()) {
            throw new IndexOutOfBoundsException("no such field");
        }
    }

    private static boolean isHour(int hour) {
        return hour >= 0 && hour < HOURS;
    }

    private static boolean isOwner(int owner) {
        return owner >= 0 && owner < OWNERS;
    }

    private static boolean isFarmer(int farmer) {
        return farmer >= 0 && farmer < FARMERS;
    }

    private static boolean isWater(int water) {
        return water >= 0 && water <= MOST_WATER;
    }

    private static boolean isEither(int what) {
        return what == 0 || what == 1;
    }

    private static int cellOf(int x, int y) {
        return SIDE * y + x;
    }

    /** A CELL as the face tells it: 100 times X, and Y. */
    private static int placeOf(int cell) {
        return cell < 0 ? NONE : 100 * (cell % SIDE) + cell / SIDE;
    }

    /** Whole numbers in a row; what lies outside is read as 0 and never written. */
    private static final class Row {
        private final int[] numbers;

        Row(int length) {
            numbers = new int[length > 0 ? length : 0];
        }

        int get(int i) {
            return i >= 0 && i < numbers.length ? numbers[i] : 0;
        }

        void set(int i, int value) {
            if (i >= 0 && i < numbers.length) {
                numbers[i] = value;
            }
        }

        void add(int i, int more) {
            if (i >= 0 && i < numbers.length) {
                numbers[i] += more;
            }
        }

        void setAll(int value) {
            for (int i = 0; i < numbers.length; i++) {
                numbers[i] = value;
            }
        }

        void copyFrom(Row other) {
            for (int i = 0; i < numbers.length && i < other.numbers.length; i++) {
                numbers[i] = other.numbers[i];
            }
        }
    }

    /** Rows of like width; what lies outside is read as 0 and never written. */
    private static final class Table {
        private final int most;
        private final int width;
        private final int[] numbers;
        private int size;

        Table(int most, int width) {
            this.most = most;
            this.width = width;
            int length = most * width;
            numbers = new int[length > 0 ? length : 0];
            size = 0;
        }

        int size() {
            return size;
        }

        boolean isFull() {
            return size >= most;
        }

        int get(int row, int column) {
            int i = row * width + column;
            return column >= 0 && column < width && i >= 0 && i < numbers.length ? numbers[i] : 0;
        }

        void set(int row, int column, int value) {
            int i = row * width + column;
            if (column >= 0 && column < width && i >= 0 && i < numbers.length) {
                numbers[i] = value;
            }
        }

        void add(int row, int column, int more) {
            int i = row * width + column;
            if (column >= 0 && column < width && i >= 0 && i < numbers.length) {
                numbers[i] += more;
            }
        }

        /** A new last row of zeros, or NONE if the table is full. */
        int open() {
            if (isFull()) {
                return NONE;
            }
            size++;
            return size - 1;
        }

        int sum(int row) {
            int sum = 0;
            for (int column = 0; column < width; column++) {
                sum += get(row, column);
            }
            return sum;
        }

        /** The column of the most in a row, of these the first. */
        int mostIn(int row) {
            int best = 0;
            for (int column = 1; column < width; column++) {
                if (get(row, column) > get(row, best)) {
                    best = column;
                }
            }
            return best;
        }

        /** The first row that begins with x and y, or NONE. */
        int rowAt(int x, int y) {
            for (int row = 0; row < size; row++) {
                if (get(row, 0) == x && get(row, 1) == y) {
                    return row;
                }
            }
            return NONE;
        }

        void empty() {
            size = 0;
            for (int i = 0; i < numbers.length; i++) {
                numbers[i] = 0;
            }
        }

        void emptyRow(int row) {
            for (int column = 0; column < width; column++) {
                set(row, column, 0);
            }
        }

        void copyFrom(Table other) {
            size = other.size;
            for (int i = 0; i < numbers.length && i < other.numbers.length; i++) {
                numbers[i] = other.numbers[i];
            }
        }
    }

    /** What a text tells: winds, CLOUDS, FIELDS, glaciers, the law; and where CLOUDS go alone. */
    private static final class Sky {
        static final int WIDTH = 0;
        static final int HEIGHT = 1;
        static final int CLOUDS = 2;
        static final int FIELDS = 3;
        static final int GLACIERS = 4;
        static final int LAW = 5;
        static final int RATE = 6;
        static final int HOLD = 7;
        static final int HAIL = 8;
        static final int FLOOD = 9;
        static final int FACTS = 10;
        // columns of the tables; X and Y are the first two of CLOUDS, FIELDS and glaciers
        static final int Z = 2;
        static final int T = 3;
        static final int Q = 4;
        static final int OWNER = 5;
        static final int MINUTE = 6;
        static final int F = 2;
        static final int N = 3;
        static final int V = 4;
        static final int P = 5;
        static final int FIELD_COLUMNS = 6;
        static final int GLACIER_T = 2;
        /** Later than each MINUTE: nobody's CLOUDS come last. */
        static final int NO_MINUTE = 1000;

        private final Row facts;
        private final Table winds;
        private final Table clouds;
        private final Table fields;
        private final Table glaciers;
        /** By CLOUD and HOUR: the CELL, or NONE. */
        private final Table trails;

        Sky() {
            facts = new Row(FACTS);
            winds = new Table(9, 4);
            clouds = new Table(MOST_CLOUDS, 7);
            fields = new Table(MOST_FIELDS, FIELD_COLUMNS);
            glaciers = new Table(MOST_GLACIERS, 3);
            trails = new Table(MOST_CLOUDS, HOURS);
            wipe();
        }

        void wipe() {
            facts.set(WIDTH, 6);
            facts.set(HEIGHT, 5);
            facts.set(LAW, 0);
            facts.set(RATE, 20);
            facts.set(HOLD, 999);
            facts.set(HAIL, 50);
            facts.set(FLOOD, 1);
            winds.empty();
            clouds.empty();
            fields.empty();
            glaciers.empty();
            trails.empty();
        }

        void copyFrom(Sky other) {
            facts.copyFrom(other.facts);
            winds.copyFrom(other.winds);
            clouds.copyFrom(other.clouds);
            fields.copyFrom(other.fields);
            glaciers.copyFrom(other.glaciers);
            trails.copyFrom(other.trails);
        }

        int fact(int what) {
            switch (what) {
                case CLOUDS: return clouds.size();
                case FIELDS: return fields.size();
                case GLACIERS: return glaciers.size();
                default: return facts.get(what);
            }
        }

        boolean isInside(int x, int y) {
            return x >= 0 && x < facts.get(WIDTH) && y >= 0 && y < facts.get(HEIGHT);
        }

        int fieldAt(int cell) {
            return fields.rowAt(cell % SIDE, cell / SIDE);
        }

        int glacierAt(int cell) {
            return glaciers.rowAt(cell % SIDE, cell / SIDE);
        }

        /** The wind told last of the latest HOUR up to this one at a HEIGHT, or NONE. */
        private int windAt(int height, int hour) {
            int best = NONE;
            for (int i = 0; i < winds.size(); i++) {
                boolean blows = winds.get(i, 0) == height && winds.get(i, 1) <= hour;
                if (blows && (best == NONE || winds.get(i, 1) >= winds.get(best, 1))) {
                    best = i;
                }
            }
            return best;
        }

        private int across(int wind) {
            return wind == NONE ? 0 : winds.get(wind, 2) - 1;
        }

        private int down(int wind) {
            return wind == NONE ? 0 : winds.get(wind, 3) - 1;
        }

        void layTrails() {
            for (int k = 0; k < clouds.size(); k++) {
                layTrail(k);
            }
        }

        private void layTrail(int k) {
            int x = clouds.get(k, 0);
            int y = clouds.get(k, 1);
            int start = clouds.get(k, T);
            for (int hour = 0; hour < HOURS; hour++) {
                if (hour > start && isInside(x, y)) {
                    int wind = windAt(clouds.get(k, Z), hour);
                    x += across(wind);
                    y += down(wind);
                }
                trails.set(k, hour, hour >= start && isInside(x, y) ? cellOf(x, y) : NONE);
            }
        }

        /** In how many HOURS a CLOUD alone is in a CELL. */
        int hoursIn(int cloud, int cell) {
            int many = 0;
            for (int hour = 0; hour < HOURS; hour++) {
                if (trails.get(cloud, hour) == cell) {
                    many++;
                }
            }
            return many;
        }

        /** DOUBT: where a CLOUD can be in an HOUR, as bits (W times Y, and X). */
        long reach(int cloud, int hour) {
            int start = clouds.get(cloud, T);
            if (hour < start) {
                return 0;
            }
            long bits = bitOf(clouds.get(cloud, 0), clouds.get(cloud, 1));
            for (int now = start + 1; now <= hour && now < HOURS; now++) {
                bits = spread(bits, windAt(clouds.get(cloud, Z), now));
            }
            return bits;
        }

        private long bitOf(int x, int y) {
            return isInside(x, y) ? 1L << (facts.get(WIDTH) * y + x) : 0;
        }

        private long spread(long from, int wind) {
            long to = 0;
            for (int y = 0; y < facts.get(HEIGHT); y++) {
                for (int x = 0; x < facts.get(WIDTH); x++) {
                    if ((from & bitOf(x, y)) != 0) {
                        to |= around(x + across(wind), y + down(wind));
                    }
                }
            }
            return to;
        }

        private long around(int x, int y) {
            long bits = 0;
            for (int j = y - 1; j <= y + 1; j++) {
                for (int i = x - 1; i <= x + 1; i++) {
                    bits |= bitOf(i, j);
                }
            }
            return bits;
        }

        /** The first FIELD of the most V in CELLS told as bits, or NONE. */
        int dearestIn(long bits) {
            int best = NONE;
            for (int i = 0; i < fields.size(); i++) {
                boolean there = (bits & bitOf(fields.get(i, 0), fields.get(i, 1))) != 0;
                if (there && (best == NONE || fields.get(i, V) > fields.get(best, V))) {
                    best = i;
                }
            }
            return best;
        }
    }

    /** Reads a text from the TAPE into a draft, so that a FAULT leaves the SKY as it was. */
    private static final class SkyReader {
        private static final int CANT_STAND = 1;
        private static final int NONE_SUCH = 2;
        private static final int TOO_MANY = 3;
        private static final int SKY_LATE = 4;
        private static final int MOST_CLAUSES = 60;
        // the words, as wordAt spells them
        private static final int SKY = 0;
        private static final int WIND = 1;
        private static final int CLOUD = 2;
        private static final int SEEN = 3;
        private static final int FIELD = 4;
        private static final int GLACIER = 5;
        private static final int JOIN = 6;
        private static final int RATE = 7;
        private static final int HOLD = 8;
        private static final int HAIL = 9;
        private static final int WORDS = 11;
        /** Above each number that can stand in a text: longer ones stay here. */
        private static final int TOO_MUCH = 100000;

        private final Row tape;
        private final Sky draft;
        private int length;
        private int at;
        private int fault;
        private int place;
        private int numberPlace;

        SkyReader(Row tape) {
            this.tape = tape;
            draft = new Sky();
            place = NONE;
        }

        Sky draft() {
            return draft;
        }

        int faultPlace() {
            return place;
        }

        /** The FAULT of the first bytes of the TAPE, or 0. */
        int read(int bytes) {
            length = bytes;
            at = 0;
            fault = 0;
            place = NONE;
            draft.wipe();
            skipBlanks();
            for (int clause = 0; clause <= MOST_CLAUSES && fault == 0 && at < length; clause++) {
                readClause(clause);
                skipBlanks();
            }
            if (fault == 0) {
                draft.layTrails();
            }
            return fault;
        }

        private void fail(int kind, int where) {
            if (fault == 0) {
                fault = kind;
                place = where;
            }
        }

        private void readClause(int clause) {
            int start = at;
            int word = readWord();
            if (word == NONE) {
                fail(CANT_STAND, start);
            } else if (clause >= MOST_CLAUSES || isTooMany(word)) {
                fail(TOO_MANY, start);
            } else if (word == SKY && clause > 0) {
                fail(SKY_LATE, start);
            } else {
                readNumbers(word);
                readEnd();
            }
        }

        private boolean isTooMany(int word) {
            switch (word) {
                case WIND: return draft.winds.isFull();
                case CLOUD: return draft.clouds.isFull();
                case FIELD: return draft.fields.isFull();
                case GLACIER: return draft.glaciers.isFull();
                default: return false;
            }
        }

        private void readNumbers(int word) {
            switch (word) {
                case SKY: readSize(); break;
                case WIND: readWind(); break;
                case CLOUD: readCloud(); break;
                case SEEN: readSeen(); break;
                case FIELD: readField(); break;
                case GLACIER: readGlacier(); break;
                case JOIN: draft.facts.set(Sky.LAW, readNumber(0, 2)); break;
                case RATE: draft.facts.set(Sky.RATE, readNumber(1, 99)); break;
                case HOLD: draft.facts.set(Sky.HOLD, readNumber(1, 999)); break;
                case HAIL: draft.facts.set(Sky.HAIL, readNumber(1, 99)); break;
                default: draft.facts.set(Sky.FLOOD, readNumber(0, 9)); break;
            }
        }

        private static String wordAt(int word) {
            switch (word) {
                case SKY: return "sky";
                case WIND: return "wind";
                case CLOUD: return "cloud";
                case SEEN: return "seen";
                case FIELD: return "field";
                case GLACIER: return "glacier";
                case JOIN: return "join";
                case RATE: return "rate";
                case HOLD: return "hold";
                case HAIL: return "hail";
                default: return "flood";
            }
        }

        private void readSize() {
            draft.facts.set(Sky.WIDTH, readNumber(2, 8));
            draft.facts.set(Sky.HEIGHT, readNumber(2, 8));
        }

        private void readWind() {
            int row = draft.winds.open();
            draft.winds.set(row, 0, readNumber(0, 2));
            draft.winds.set(row, 1, readNumber(0, LAST_HOUR));
            draft.winds.set(row, 2, readNumber(0, 2));
            draft.winds.set(row, 3, readNumber(0, 2));
        }

        private void readCloud() {
            int row = draft.clouds.open();
            draft.clouds.set(row, 0, readNumber(0, lastX()));
            draft.clouds.set(row, 1, readNumber(0, lastY()));
            draft.clouds.set(row, Sky.Z, readNumber(0, 2));
            draft.clouds.set(row, Sky.T, readNumber(0, LAST_HOUR));
            draft.clouds.set(row, Sky.Q, readNumber(1, 999));
            draft.clouds.set(row, Sky.OWNER, NOBODY);
            draft.clouds.set(row, Sky.MINUTE, Sky.NO_MINUTE);
        }

        private void readSeen() {
            int cloud = readNumber(0, draft.clouds.size() - 1);
            int owner = readNumber(0, OWNERS - 2);
            int minute = readNumber(0, 999);
            if (minute < draft.clouds.get(cloud, Sky.MINUTE)) {
                draft.clouds.set(cloud, Sky.OWNER, owner);
                draft.clouds.set(cloud, Sky.MINUTE, minute);
            }
        }

        private void readField() {
            int x = readNumber(0, lastX());
            int y = readNumber(0, lastY());
            if (draft.fields.rowAt(x, y) != NONE) {
                fail(NONE_SUCH, numberPlace);
            }
            int row = draft.fields.open();
            draft.fields.set(row, 0, x);
            draft.fields.set(row, 1, y);
            draft.fields.set(row, Sky.F, readNumber(0, FARMERS - 1));
            draft.fields.set(row, Sky.N, readNumber(0, 99));
            draft.fields.set(row, Sky.V, readNumber(0, 99));
            draft.fields.set(row, Sky.P, readNumber(0, 9));
        }

        private void readGlacier() {
            int x = readNumber(0, lastX());
            int y = readNumber(0, lastY() - 1);
            if (draft.glaciers.rowAt(x, y) != NONE) {
                fail(NONE_SUCH, numberPlace);
            }
            int row = draft.glaciers.open();
            draft.glaciers.set(row, 0, x);
            draft.glaciers.set(row, 1, y);
            draft.glaciers.set(row, Sky.GLACIER_T, readNumber(0, LAST_HOUR));
        }

        private int lastX() {
            return draft.facts.get(Sky.WIDTH) - 1;
        }

        private int lastY() {
            return draft.facts.get(Sky.HEIGHT) - 1;
        }

        private void skipBlanks() {
            while (at < length && tape.get(at) == ' ') {
                at++;
            }
        }

        private int readWord() {
            int start = at;
            while (at < length && tape.get(at) >= 'a' && tape.get(at) <= 'z') {
                at++;
            }
            for (int word = 0; word < WORDS; word++) {
                if (isSpelt(wordAt(word), start)) {
                    return word;
                }
            }
            return NONE;
        }

        private boolean isSpelt(String word, int start) {
            if (at - start != word.length()) {
                return false;
            }
            for (int i = 0; i < word.length(); i++) {
                if (word.charAt(i) != tape.get(start + i)) {
                    return false;
                }
            }
            return true;
        }

        /** A number from least to most; behind a FAULT nothing more is read. */
        private int readNumber(int least, int most) {
            if (fault != 0) {
                return least;
            }
            skipBlanks();
            numberPlace = at;
            int value = 0;
            while (at < length && tape.get(at) >= '0' && tape.get(at) <= '9') {
                value = Math.min(10 * value + tape.get(at) - '0', TOO_MUCH);
                at++;
            }
            if (at == numberPlace) {
                fail(CANT_STAND, at);
            } else if (value < least || value > most) {
                fail(NONE_SUCH, numberPlace);
            }
            return fault == 0 ? value : least;
        }

        private void readEnd() {
            skipBlanks();
            if (at < length && tape.get(at) == ';') {
                at++;
            } else {
                fail(CANT_STAND, at);
            }
        }
    }

    /** What an IMAGE holds: ORDERS, BIDS and GAUGES. */
    private static final class Book {
        static final int FALL = 0;
        static final int SALT = 1;
        static final int GUNS = 2;
        // columns of ORDERS
        static final int HOUR = 0;
        static final int CLOUD = 1;
        static final int KIND = 2;
        static final int AMOUNT = 3;
        // columns of BIDS
        static final int MANY = 1;
        static final int PRICE = 2;
        // a column of GAUGES, behind X and Y
        static final int FELL = 2;

        private final Table orders;
        private final Table bids;
        private final Table gauges;

        Book() {
            orders = new Table(30, 4);
            bids = new Table(8, 3);
            gauges = new Table(9, 3);
        }

        void wipe() {
            orders.empty();
            bids.empty();
            gauges.empty();
        }

        void copyFrom(Book other) {
            orders.copyFrom(other.orders);
            bids.copyFrom(other.bids);
            gauges.copyFrom(other.gauges);
        }

        static boolean isOrder(int kind, int n) {
            switch (kind) {
                case FALL: return n >= 1 && n <= 999;
                case SALT: return n >= 0 && n <= 8;
                case GUNS: return n == 0;
                default: return false;
            }
        }

        int giveOrder(int hour, int cloud, int kind, int n) {
            int row = orders.open();
            if (row == NONE) {
                return NONE;
            }
            orders.set(row, HOUR, hour);
            orders.set(row, CLOUD, cloud);
            orders.set(row, KIND, kind);
            orders.set(row, AMOUNT, n);
            return orders.size();
        }

        int takeBid(int farmer, int many, int price) {
            int row = bids.open();
            if (row == NONE) {
                return NONE;
            }
            bids.set(row, 0, farmer);
            bids.set(row, MANY, many);
            bids.set(row, PRICE, price);
            return bids.size();
        }

        int setGauge(int x, int y, int fell) {
            if (gauges.isFull() || gauges.rowAt(x, y) != NONE) {
                return NONE;
            }
            int row = gauges.open();
            gauges.set(row, 0, x);
            gauges.set(row, 1, y);
            gauges.set(row, FELL, fell);
            return gauges.size();
        }

        boolean hasGuns(int hour, int cloud) {
            for (int i = 0; i < orders.size(); i++) {
                boolean ofThese = orders.get(i, HOUR) == hour && orders.get(i, CLOUD) == cloud;
                if (ofThese && orders.get(i, KIND) == GUNS) {
                    return true;
                }
            }
            return false;
        }
    }

    /** A DAY gone through by HOURS: CLOUDS go, come, JOIN, and let fall. */
    private static final class Day {
        private final Sky sky;
        private final Book book;
        private final Ground ground;
        /** By CLOUD: the CELL, or NONE: not there. */
        private final Row cells;
        /** By CLOUD and OWNER: the WATER. */
        private final Table parts;
        /** By CLOUD: whose it is, also when nothing is left in it, and when he saw it. */
        private final Row owners;
        private final Row minutes;
        /** By CLOUD: what fell by ORDERS in this HOUR. */
        private final Row ordered;
        private int seed;
        private int gone;
        private int joins;

        Day(Sky sky, Book book) {
            this.sky = sky;
            this.book = book;
            ground = new Ground(sky);
            cells = new Row(MOST_CLOUDS);
            parts = new Table(MOST_CLOUDS, OWNERS);
            owners = new Row(MOST_CLOUDS);
            minutes = new Row(MOST_CLOUDS);
            ordered = new Row(MOST_CLOUDS);
        }

        boolean isThere(int cloud) {
            return cells.get(cloud) != NONE;
        }

        int total(int what) {
            switch (what) {
                case 0: return inTheSky();
                case 1: return gone;
                case 2: return ground.taken;
                case 3: return ground.flood;
                case 4: return ground.waste;
                case 5: return ground.keptByGlaciers();
                case 6: return joins;
                default: return ground.hails;
            }
        }

        private int inTheSky() {
            int water = 0;
            for (int k = 0; k < sky.clouds.size(); k++) {
                if (isThere(k)) {
                    water += parts.sum(k);
                }
            }
            return water;
        }

        /** From the first HOUR to the end of the last one asked for. */
        void run(int firstSeed, int lastHour) {
            seed = firstSeed;
            gone = 0;
            joins = 0;
            cells.setAll(NONE);
            parts.empty();
            ground.wipe();
            for (int hour = 0; hour <= lastHour && hour < HOURS; hour++) {
                go(hour);
                come(hour);
                joinAll();
                spill(hour);
                obey(hour);
                for (int k = 0; k < sky.clouds.size(); k++) {
                    ground.takeRain(cells.get(k), hour);
                }
                ground.melt(hour);
            }
        }

        private void go(int hour) {
            for (int k = 0; k < sky.clouds.size(); k++) {
                if (isThere(k)) {
                    // one that others joined goes on as it would alone
                    cells.set(k, sky.trails.get(k, hour));
                    if (!isThere(k)) {
                        gone += parts.sum(k);
                    }
                }
            }
        }

        private void come(int hour) {
            for (int k = 0; k < sky.clouds.size(); k++) {
                if (sky.clouds.get(k, Sky.T) == hour) {
                    cells.set(k, sky.trails.get(k, hour));
                    parts.set(k, sky.clouds.get(k, Sky.OWNER), sky.clouds.get(k, Sky.Q));
                    owners.set(k, sky.clouds.get(k, Sky.OWNER));
                    minutes.set(k, sky.clouds.get(k, Sky.MINUTE));
                }
            }
        }

        private void joinAll() {
            for (int k = 1; k < sky.clouds.size(); k++) {
                int first = isThere(k) ? firstBeside(k) : NONE;
                if (first != NONE) {
                    join(first, k);
                }
            }
        }

        private int firstBeside(int cloud) {
            for (int j = 0; j < cloud; j++) {
                boolean alike = sky.clouds.get(j, Sky.Z) == sky.clouds.get(cloud, Sky.Z);
                if (alike && cells.get(j) == cells.get(cloud)) {
                    return j;
                }
            }
            return NONE;
        }

        private void join(int first, int second) {
            int law = sky.fact(Sky.LAW);
            // before they are one: by law 1 what each has ahead of it tells who counts
            int counts = law == 0 ? earlier(first, second) : fuller(first, second);
            for (int o = 0; o < OWNERS; o++) {
                parts.add(first, o, parts.get(second, o));
            }
            if (law != 2) {
                giveAll(first, counts);
            }
            parts.emptyRow(second);
            cells.set(second, NONE);
            joins++;
        }

        /** All WATER of a CLOUD, and the CLOUD with its MINUTE, is the OWNER's of the one that counted. */
        private void giveAll(int cloud, int counts) {
            int owner = owners.get(counts);
            int all = parts.sum(cloud);
            parts.emptyRow(cloud);
            parts.set(cloud, owner, all);
            owners.set(cloud, owner);
            minutes.set(cloud, minutes.get(counts));
        }

        private int earlier(int first, int second) {
            return minutes.get(second) < minutes.get(first) ? second : first;
        }

        private int fuller(int first, int second) {
            return parts.sum(second) > parts.sum(first) ? second : first;
        }

        private void spill(int hour) {
            for (int k = 0; k < sky.clouds.size(); k++) {
                if (isThere(k)) {
                    int more = parts.sum(k) - sky.fact(Sky.HOLD);
                    if (more > 0 && !book.hasGuns(hour, k)) {
                        letFall(k, more);
                    }
                }
            }
        }

        private void obey(int hour) {
            ordered.setAll(0);
            for (int i = 0; i < book.orders.size(); i++) {
                int cloud = book.orders.get(i, Book.CLOUD);
                if (book.orders.get(i, Book.HOUR) == hour && isThere(cloud)) {
                    int wanted = wantedBy(book.orders.get(i, Book.KIND), book.orders.get(i, Book.AMOUNT));
                    int can = Math.min(sky.fact(Sky.RATE) - ordered.get(cloud), parts.sum(cloud));
                    int falls = Math.min(wanted, can);
                    letFall(cloud, falls);
                    ordered.add(cloud, falls);
                }
            }
        }

        private int wantedBy(int kind, int amount) {
            switch (kind) {
                case Book.FALL: return amount;
                case Book.SALT: return draw() < amount ? sky.fact(Sky.RATE) : 0;
                default: return 0;
            }
        }

        private int draw() {
            seed = seed * 1103515245 + 12345;
            return (seed >>> 16) & 7;
        }

        private void letFall(int cloud, int many) {
            int all = parts.sum(cloud);
            if (many <= 0 || all <= 0) {
                return;
            }
            int rest = many;
            for (int o = 0; o < OWNERS; o++) {
                int his = many * parts.get(cloud, o) / all;
                dropFrom(cloud, o, his);
                rest -= his;
            }
            // fewer are left than OWNERS who have some, so this ends in the first round
            for (int turn = 0; turn < OWNERS * OWNERS && rest > 0; turn++) {
                int o = turn % OWNERS;
                if (parts.get(cloud, o) > 0) {
                    dropFrom(cloud, o, 1);
                    rest--;
                }
            }
        }

        private void dropFrom(int cloud, int owner, int many) {
            parts.add(cloud, owner, -many);
            ground.rain.add(cells.get(cloud), owner, many);
        }
    }

    /** What happens to WATER that fell: glaciers, FIELDS, FLOOD, HAIL, WASTE, and who owes what. */
    private static final class Ground {
        // columns of the accounts of OWNERS
        private static final int PAID = 0;
        private static final int FOR_FLOOD = 1;
        private static final int FOR_HAIL = 2;
        // columns of FARMERS
        private static final int PAYS = 0;
        private static final int IS_OWED = 1;
        // columns of FIELDS
        private static final int THIRST = 0;
        private static final int FLOODED = 1;
        private static final int HAIL_HOUR = 2;

        private final Sky sky;
        /** By CELL and OWNER: what fell in this HOUR. */
        private final Table rain;
        /** By glacier and OWNER. */
        private final Table kept;
        private final Table accounts;
        private final Table farmers;
        private final Table fields;
        private int taken;
        private int flood;
        private int waste;
        private int hails;

        Ground(Sky sky) {
            this.sky = sky;
            rain = new Table(SIDE * SIDE, OWNERS);
            kept = new Table(MOST_GLACIERS, OWNERS);
            accounts = new Table(OWNERS, 3);
            farmers = new Table(FARMERS, 2);
            fields = new Table(MOST_FIELDS, 3);
        }

        void wipe() {
            rain.empty();
            kept.empty();
            accounts.empty();
            farmers.empty();
            for (int i = 0; i < MOST_FIELDS; i++) {
                fields.set(i, THIRST, sky.fields.get(i, Sky.N));
                fields.set(i, FLOODED, 0);
                fields.set(i, HAIL_HOUR, NONE);
            }
            taken = 0;
            flood = 0;
            waste = 0;
            hails = 0;
        }

        int keptByGlaciers() {
            int water = 0;
            for (int g = 0; g < sky.glaciers.size(); g++) {
                water += kept.sum(g);
            }
            return water;
        }

        /** What fell on a CELL in this HOUR goes where it is due; a second call finds nothing. */
        void takeRain(int cell, int hour) {
            if (cell == NONE || rain.sum(cell) == 0) {
                return;
            }
            int field = sky.fieldAt(cell);
            if (field != NONE && keeperOf(cell, hour) == NONE) {
                hail(field, cell, hour);
            }
            lie(rain, cell, cell, hour);
        }

        void melt(int hour) {
            for (int g = 0; g < sky.glaciers.size(); g++) {
                if (sky.glaciers.get(g, Sky.GLACIER_T) == hour) {
                    int below = cellOf(sky.glaciers.get(g, 0), sky.glaciers.get(g, 1) + 1);
                    lie(kept, g, below, hour);
                }
            }
        }

        /** The glacier that still keeps what falls on a CELL, or NONE. */
        private int keeperOf(int cell, int hour) {
            int glacier = sky.glacierAt(cell);
            return glacier != NONE && hour < sky.glaciers.get(glacier, Sky.GLACIER_T) ? glacier : NONE;
        }

        private void hail(int field, int cell, int hour) {
            if (rain.sum(cell) > sky.fact(Sky.HAIL) && fields.get(field, HAIL_HOUR) == NONE) {
                fields.set(field, HAIL_HOUR, hour);
                accounts.add(rain.mostIn(cell), FOR_HAIL, sky.fields.get(field, Sky.V));
                farmers.add(sky.fields.get(field, Sky.F), IS_OWED, sky.fields.get(field, Sky.V));
                hails++;
            }
        }

        /** A row of WATER by OWNER comes onto a CELL, and the row is empty then. */
        private void lie(Table from, int row, int cell, int hour) {
            int glacier = keeperOf(cell, hour);
            int field = sky.fieldAt(cell);
            for (int o = 0; o < OWNERS; o++) {
                int many = from.get(row, o);
                from.set(row, o, 0);
                if (glacier != NONE) {
                    kept.add(glacier, o, many);
                } else if (field != NONE) {
                    soak(field, o, many);
                } else {
                    waste += many;
                }
            }
        }

        private void soak(int field, int owner, int many) {
            int takes = Math.min(many, fields.get(field, THIRST));
            int more = many - takes;
            int pay = takes * sky.fields.get(field, Sky.P);
            int harm = more * sky.fact(Sky.FLOOD);
            int farmer = sky.fields.get(field, Sky.F);
            fields.add(field, THIRST, -takes);
            fields.add(field, FLOODED, more);
            accounts.add(owner, PAID, pay);
            accounts.add(owner, FOR_FLOOD, harm);
            farmers.add(farmer, PAYS, pay);
            farmers.add(farmer, IS_OWED, harm);
            taken += takes;
            flood += more;
        }
    }

    /** WORTH of CLOUDS, and their SHARES. */
    private static final class Worth {
        private final Sky sky;
        /** By CLOUD and FIELD: what can fall at most, and what falls. */
        private final Table room;
        private final Table flow;
        /** By CLOUD: what it has yet. */
        private final Row left;
        private final Row done;
        /** Of the latest search: for what FIELD a CLOUD was found, by what CLOUD a FIELD. */
        private final Row cloudFor;
        private final Row fieldBy;
        private final Row queue;
        private final Row worths;
        private long above;
        private long below;

        Worth(Sky sky) {
            this.sky = sky;
            room = new Table(MOST_CLOUDS, MOST_FIELDS);
            flow = new Table(MOST_CLOUDS, MOST_FIELDS);
            left = new Row(MOST_CLOUDS);
            done = new Row(MOST_FIELDS);
            cloudFor = new Row(MOST_CLOUDS);
            fieldBy = new Row(MOST_FIELDS);
            queue = new Row(MOST_FIELDS);
            worths = new Row(1 << MOST_SHARED);
        }

        long above() {
            return above;
        }

        long below() {
            return below;
        }

        void measure() {
            for (int k = 0; k < sky.clouds.size(); k++) {
                for (int f = 0; f < sky.fields.size(); f++) {
                    int cell = cellOf(sky.fields.get(f, 0), sky.fields.get(f, 1));
                    room.set(k, f, sky.fact(Sky.RATE) * sky.hoursIn(k, cell));
                }
            }
        }

        /** The dearest FIELDS first: what they can get never grows less by serving others later. */
        int of(int clouds) {
            flow.empty();
            done.setAll(0);
            for (int k = 0; k < sky.clouds.size(); k++) {
                left.set(k, (clouds >> k & 1) == 1 ? sky.clouds.get(k, Sky.Q) : 0);
            }
            int worth = 0;
            for (int turn = 0; turn < sky.fields.size(); turn++) {
                int field = dearestLeft();
                done.set(field, 1);
                worth += sky.fields.get(field, Sky.P) * quench(field);
            }
            return worth;
        }

        private int dearestLeft() {
            int best = NONE;
            for (int f = 0; f < sky.fields.size(); f++) {
                boolean dearer = best == NONE || sky.fields.get(f, Sky.P) > sky.fields.get(best, Sky.P);
                if (done.get(f) == 0 && dearer) {
                    best = f;
                }
            }
            return best;
        }

        private int quench(int field) {
            int thirst = sky.fields.get(field, Sky.N);
            int got = 0;
            for (int step = 0; step < thirst && got < thirst; step++) {
                int last = findWater(field);
                if (last == NONE) {
                    return got;
                }
                got += lead(last, field, thirst - got);
            }
            return got;
        }

        /** A CLOUD with WATER left that can reach a FIELD, if need be by others that serve it instead; or NONE. */
        private int findWater(int field) {
            cloudFor.setAll(NONE);
            fieldBy.setAll(NONE);
            queue.set(0, field);
            int many = 1;
            for (int head = 0; head < many && head < MOST_FIELDS; head++) {
                int dry = queue.get(head);
                for (int k = 0; k < sky.clouds.size(); k++) {
                    if (cloudFor.get(k) == NONE && room.get(k, dry) > flow.get(k, dry)) {
                        cloudFor.set(k, dry);
                        if (left.get(k) > 0) {
                            return k;
                        }
                        many = queueServed(k, field, many);
                    }
                }
            }
            return NONE;
        }

        /** The FIELDS that a CLOUD serves come into the queue: others may serve them instead. */
        private int queueServed(int cloud, int start, int queued) {
            int many = queued;
            for (int f = 0; f < sky.fields.size(); f++) {
                if (f != start && fieldBy.get(f) == NONE && flow.get(cloud, f) > 0) {
                    fieldBy.set(f, cloud);
                    queue.set(many, f);
                    many++;
                }
            }
            return many;
        }

        private int lead(int cloud, int field, int most) {
            int many = Math.min(most, left.get(cloud));
            int k = cloud;
            for (int step = 0; step < MOST_CLOUDS; step++) {
                int f = cloudFor.get(k);
                many = Math.min(many, room.get(k, f) - flow.get(k, f));
                if (f == field) {
                    break;
                }
                k = fieldBy.get(f);
                many = Math.min(many, flow.get(k, f));
            }
            left.add(cloud, -many);
            k = cloud;
            for (int step = 0; step < MOST_CLOUDS; step++) {
                int f = cloudFor.get(k);
                flow.add(k, f, many);
                if (f == field) {
                    break;
                }
                k = fieldBy.get(f);
                flow.add(k, f, -many);
            }
            return many;
        }

        /** The SHARE of a CLOUD, as a fraction that can't be shortened. */
        void shareOut(int cloud) {
            int clouds = Math.min(sky.clouds.size(), MOST_SHARED);
            measure();
            for (int bits = 0; bits < 1 << clouds; bits++) {
                worths.set(bits, of(bits));
            }
            above = 0;
            for (int bits = 0; bits < 1 << clouds; bits++) {
                if ((bits >> cloud & 1) == 0) {
                    int ahead = Integer.bitCount(bits);
                    long orders = (long) ordersOf(ahead) * ordersOf(clouds - 1 - ahead);
                    above += orders * (worths.get(bits | 1 << cloud) - worths.get(bits));
                }
            }
            below = ordersOf(clouds);
            long common = commonOf(above, below);
            if (common > 1) {
                above /= common;
                below /= common;
            }
        }

        private static int ordersOf(int many) {
            int orders = 1;
            for (int i = 2; i <= many && i <= MOST_SHARED; i++) {
                orders *= i;
            }
            return orders;
        }

        private static long commonOf(long one, long other) {
            long a = one;
            long b = other;
            for (int step = 0; step < 100 && b != 0; step++) {
                long rest = a % b;
                a = b;
                b = rest;
            }
            return a;
        }
    }

    /** BIDS served, and a DROUGHT shared. */
    private static final class Market {
        private final Sky sky;
        private final Book book;
        /** By BID: whether its turn was, and what it gets. */
        private final Row done;
        private final Row served;
        /** By FIELD. */
        private final Row rations;
        private int price;

        Market(Sky sky, Book book) {
            this.sky = sky;
            this.book = book;
            done = new Row(8);
            served = new Row(8);
            rations = new Row(MOST_FIELDS);
        }

        int price() {
            return price;
        }

        int allPay() {
            int many = 0;
            for (int i = 0; i < book.bids.size(); i++) {
                many += served.get(i);
            }
            return many * price;
        }

        void serve(int water) {
            int left = water;
            price = 0;
            done.setAll(0);
            for (int turn = 0; turn < book.bids.size(); turn++) {
                int bid = bestLeft();
                int many = Math.min(left, book.bids.get(bid, Book.MANY));
                if (many < book.bids.get(bid, Book.MANY)) {
                    price = Math.max(price, book.bids.get(bid, Book.PRICE));
                }
                served.set(bid, many);
                done.set(bid, 1);
                left -= many;
            }
        }

        private int bestLeft() {
            int best = NONE;
            for (int i = 0; i < book.bids.size(); i++) {
                boolean better = best == NONE || book.bids.get(i, Book.PRICE) > book.bids.get(best, Book.PRICE);
                if (done.get(i) == 0 && better) {
                    best = i;
                }
            }
            return best;
        }

        void ration(int water) {
            rations.setAll(0);
            for (int one = 0; one < water && one < MOST_WATER; one++) {
                int field = driest();
                if (field == NONE) {
                    return;
                }
                rations.add(field, 1);
            }
        }

        /** The first FIELD that has the least part of its thirst, of those that thirst yet; or NONE. */
        private int driest() {
            int best = NONE;
            for (int f = 0; f < sky.fields.size(); f++) {
                boolean thirsts = rations.get(f) < sky.fields.get(f, Sky.N);
                if (thirsts && (best == NONE || hasLess(f, best))) {
                    best = f;
                }
            }
            return best;
        }

        private boolean hasLess(int one, int other) {
            return rations.get(one) * sky.fields.get(other, Sky.N) < rations.get(other) * sky.fields.get(one, Sky.N);
        }
    }

    /** The ways to EXPLAIN the GAUGES. */
    private static final class Guess {
        private static final int MOST_GUESSED = 6;

        private final Sky sky;
        private final Book book;
        /** By GAUGE: what no CLOUD explains yet. */
        private final Row open;
        private int allOpen;
        private int ways;
        private int sure;

        Guess(Sky sky, Book book) {
            this.sky = sky;
            this.book = book;
            open = new Row(9);
        }

        int ways() {
            return ways;
        }

        int sure() {
            return ways == 0 ? 0 : sure;
        }

        int liar() {
            search(NONE);
            if (ways > 0) {
                return NONE;
            }
            for (int g = 0; g < book.gauges.size(); g++) {
                search(g);
                if (ways > 0) {
                    return g;
                }
            }
            return NONE;
        }

        private int guessed() {
            return Math.min(sky.clouds.size(), MOST_GUESSED);
        }

        /** Goes through all ways, without one GAUGE (or NONE). */
        void search(int without) {
            ways = 0;
            sure = (1 << guessed()) - 1;
            allOpen = 0;
            for (int g = 0; g < book.gauges.size(); g++) {
                if (g != without) {
                    open.set(g, book.gauges.get(g, Book.FELL));
                    allOpen += open.get(g);
                }
            }
            int water = 0;
            for (int k = 0; k < guessed(); k++) {
                water += sky.clouds.get(k, Sky.Q);
            }
            place(0, 0, water, without);
        }

        /** Tries all GAUGES for a CLOUD and those behind it, which have so much WATER together. */
        private void place(int cloud, int fell, int water, int without) {
            if (allOpen > water) {
                return;
            }
            if (cloud >= guessed()) {
                ways++;
                sure &= fell;
                return;
            }
            int his = sky.clouds.get(cloud, Sky.Q);
            for (int g = 0; g < book.gauges.size(); g++) {
                if (g != without && open.get(g) >= his && passes(cloud, g)) {
                    explainBy(g, his);
                    place(cloud + 1, fell | 1 << cloud, water - his, without);
                    explainBy(g, -his);
                }
            }
            place(cloud + 1, fell, water - his, without);
        }

        private void explainBy(int gauge, int water) {
            open.add(gauge, -water);
            allOpen -= water;
        }

        private boolean passes(int cloud, int gauge) {
            int cell = cellOf(book.gauges.get(gauge, 0), book.gauges.get(gauge, 1));
            return sky.hoursIn(cloud, cell) > 0;
        }
    }
}
