import java.util.NoSuchElementException;

/** Boards whose lines hold turns of a small group; ../shared/DOC.md tells what each call promises. */
public final class TurnBoard {
    public static final int NONE = -1;

    private static final int REST = 0;
    private static final int MOST_TEXTS = 12;
    /** Of a text of THE BOARD, and of a WALK behind its begin. */
    private static final int MOST_PARTS = 12;

    private final Tape tape;
    private final Reader reader;
    private final Board now;
    /** What a text tells is built here, so that of a wrong one nothing stays. */
    private final Board draft;
    private final Board kept;
    private boolean isKept;
    private final BoardText boardText;
    private final Walk walker;
    private final History history;
    private final Sums sums;
    private final Listing listing;

    public TurnBoard() {
        tape = new Tape();
        reader = new Reader(tape);
        now = new Board();
        draft = new Board();
        kept = new Board();
        isKept = false;
        boardText = new BoardText(reader, draft);
        walker = new Walk(reader, now);
        history = new History(now);
        sums = new Sums(now);
        listing = new Listing(now);
    }

    public int feed(int a, int b, int c, int d, int e) {
        if (!tape.hasRoom(20)) {
            return NONE;
        }
        tape.append(a);
        tape.append(b);
        tape.append(c);
        tape.append(d);
        tape.append(e);
        return tape.size();
    }

    public boolean end(int n) {
        return tape.cutTo(n);
    }

    public int board() throws IllegalArgumentException, UnsupportedOperationException {
        draft.copyFrom(now);
        boolean right = boardText.read();
        tape.clear();
        if (!right) {
            throw new IllegalArgumentException("the text is wrong");
        }
        if (now.texts() >= MOST_TEXTS) {
            throw new UnsupportedOperationException("there are 12 texts");
        }
        draft.countText();
        now.copyFrom(draft);
        history.forget();
        return now.texts();
    }

    public int fault() {
        return reader.wrong();
    }

    public int by(int a, int b) throws IndexOutOfBoundsException {
        Group group = now.group();
        if (!group.has(a) || !group.has(b)) {
            throw new IndexOutOfBoundsException("no such turn");
        }
        return group.times(a, b);
    }

    public int turn(int t, int what) throws IndexOutOfBoundsException, NoSuchElementException {
        Group group = now.group();
        if (!group.has(t)) {
            throw new IndexOutOfBoundsException("no such turn");
        }
        switch (what) {
            case 0: return group.against(t);
            case 1: return group.kinOf(t);
            case 2: return group.kinSize(t);
            case 3: return group.timesToRest(t);
            case 4: return group.commutators(t);
            case 5: return group.roots(t);
            case 6: return now.weight(t);
            default: throw new NoSuchElementException("no such what");
        }
    }

    public int line(int x, int y, boolean north) throws IndexOutOfBoundsException {
        int line = now.lineAt(x, y, north);
        if (line == NONE) {
            throw new IndexOutOfBoundsException("no such line");
        }
        return now.turnOn(line);
    }

    public int set(int x, int y, boolean north, int t) throws IndexOutOfBoundsException {
        int line = now.lineAt(x, y, north);
        if (line == NONE || !now.group().has(t)) {
            throw new IndexOutOfBoundsException("no such line or turn");
        }
        int before = now.turnOn(line);
        now.putTurn(line, t);
        history.noteLine(line, before, t);
        return before;
    }

    public int round(int x, int y) throws IndexOutOfBoundsException {
        int square = now.squareAt(x, y);
        if (square == NONE) {
            throw new IndexOutOfBoundsException("no such square");
        }
        return now.turnRound(square);
    }

    public int frame(int x, int y, int t) throws IndexOutOfBoundsException {
        int corner = now.cornerAt(x, y);
        if (corner == NONE || !now.group().has(t)) {
            throw new IndexOutOfBoundsException("no such corner or turn");
        }
        history.noteFrame(corner, now.group().against(t), t);
        return now.reframe(corner, t);
    }

    public boolean undo() {
        return history.takeBack();
    }

    public boolean redo() {
        return history.doAgain();
    }

    public int walk(int what) throws IllegalArgumentException, NoSuchElementException {
        boolean right = walker.read();
        tape.clear();
        if (!right) {
            throw new IllegalArgumentException("the text is wrong");
        }
        switch (what) {
            case 0: return walker.comesTo();
            case 1: return walker.isClosed() ? 1 : 0;
            case 2: return walker.length();
            default: throw new NoSuchElementException("no such what");
        }
    }

    public long worth() {
        return now.worthOfTurns();
    }

    public int turned() {
        return now.turnedSquares();
    }

    public boolean alike() throws IllegalStateException {
        if (!isKept) {
            throw new IllegalStateException("no image was kept");
        }
        return now.isReframed(kept);
    }

    public long sum() {
        return sums.ofStates();
    }

    public long listed() throws IllegalStateException {
        if (now.squares() > Listing.MOST_SQUARES) {
            throw new IllegalStateException("there are more than 4 squares");
        }
        return listing.ofStates();
    }

    public long states(int k) {
        return sums.statesTurned(k);
    }

    public long mean(int kin) throws IndexOutOfBoundsException, IllegalArgumentException, IllegalStateException {
        boolean right = walker.read();
        tape.clear();
        if (kin != NONE && !now.group().hasKin(kin)) {
            throw new IndexOutOfBoundsException("no such kin");
        }
        if (!right) {
            throw new IllegalArgumentException("the text is wrong");
        }
        if (!now.isFlat() || !walker.isSimple()) {
            throw new IllegalStateException("not flat, or no such walk");
        }
        return kin == NONE ? walker.squaresWithin() : sums.ofWalk(walker, kin);
    }

    public int rests(boolean once) {
        return once ? sums.restsOnce() : sums.restsInAll();
    }

    public long body(int squares, int handles, int crosses) throws IllegalArgumentException {
        if (squares < 0 || squares > 6 || handles < 0 || handles > 2 || crosses < 0 || crosses > 2) {
            throw new IllegalArgumentException("a number is none");
        }
        return sums.ofBody(squares, handles, crosses);
    }

    public int dual(int t) throws IndexOutOfBoundsException, IllegalStateException {
        if (!now.group().has(t)) {
            throw new IndexOutOfBoundsException("no such turn");
        }
        if (!now.group().isOfHalves()) {
            throw new IllegalStateException("not of halves");
        }
        return sums.dualOf(t);
    }

    public long dualSum() throws IllegalStateException {
        if (!now.group().isOfHalves() || !now.isClosed()) {
            throw new IllegalStateException("not of halves, or not closed");
        }
        return sums.ofDuals();
    }

    public long draw(int seed) throws IllegalStateException {
        if (!now.isFlat() || now.weightSum() < 1) {
            throw new IllegalStateException("not flat, or no weight is above 0");
        }
        now.drawTurns(seed);
        history.forget();
        return now.worthOfTurns();
    }

    public void image() {
        kept.copyFrom(now);
        isKept = true;
    }

    public boolean back() {
        if (!isKept) {
            return false;
        }
        now.copyFrom(kept);
        history.forget();
        return true;
    }

    public int count(int what) {
        switch (what) {
            case 0: return now.texts();
            case 1: return now.group().kind();
            case 2: return now.group().order();
            case 3: return now.group().kins();
            case 4: return now.wide();
            case 5: return now.high();
            case 6: return now.shape();
            case 7: return now.corners();
            case 8: return now.lines();
            case 9: return now.holes();
            case 10: return history.undoable();
            case 11: return history.redoable();
            case 12: return now.group().commutators(REST);
            default: return NONE;
        }
    }

    /** Elements of rows, by indices that are looked at first. */
    private static final class Rows {
        private Rows() {
        }

        static int at(int[] row, int i) {
            return i >= 0 && i < row.length ? row[i] : 0;
        }

        static long at(long[] row, int i) {
            return i >= 0 && i < row.length ? row[i] : 0;
        }

        static void put(int[] row, int i, int value) {
            if (i >= 0 && i < row.length) {
                row[i] = value;
            }
        }

        static void add(int[] row, int i, int more) {
            if (i >= 0 && i < row.length) {
                row[i] += more;
            }
        }

        static void put(long[] row, int i, long value) {
            if (i >= 0 && i < row.length) {
                row[i] = value;
            }
        }

        static void add(long[] row, int i, long more) {
            if (i >= 0 && i < row.length) {
                row[i] += more;
            }
        }

        static void fill(int[] row, int value) {
            for (int i = 0; i < row.length; i++) {
                row[i] = value;
            }
        }

        static void fill(long[] row, long value) {
            for (int i = 0; i < row.length; i++) {
                row[i] = value;
            }
        }

        static void copy(int[] from, int[] to) {
            for (int i = 0; i < from.length && i < to.length; i++) {
                to[i] = from[i];
            }
        }
    }

    /** The TURNS of a KIND and an ORDER. */
    private static final class Group {
        private static final int MOST = 8;
        private static final int ROUND = 0;
        private static final int FLIPS = 1;
        private static final int FLIPS_OF_FOUR = 2;
        private static final int HALVES = 3;

        private int kind;
        private int order;
        private int kins;
        private final int[] products = new int[MOST * MOST];
        private final int[] inverses = new int[MOST];
        private final int[] kinOfTurns = new int[MOST];
        private final int[] kinSizes = new int[MOST];
        private final int[] commutatorsOfTurns = new int[MOST];
        private final int[] rootsOfTurns = new int[MOST];

        Group() {
            become(ROUND, 2);
        }

        static boolean exists(int kind, int order) {
            boolean even = order == 4 || order == 8;
            switch (kind) {
                case ROUND: return order >= 2 && order <= MOST;
                case FLIPS: return even || order == 6;
                case FLIPS_OF_FOUR: return order == 8;
                case HALVES: return even || order == 2;
                default: return false;
            }
        }

        void become(int newKind, int newOrder) {
            if (kind == newKind && order == newOrder) {
                return;
            }
            kind = newKind;
            order = newOrder;
            fillProducts();
            fillKins();
            fillCounts();
        }

        private void fillProducts() {
            for (int a = 0; a < order; a++) {
                for (int b = 0; b < order; b++) {
                    int product = product(a, b);
                    Rows.put(products, a * MOST + b, product);
                    if (product == REST) {
                        Rows.put(inverses, a, b);
                    }
                }
            }
        }

        private int product(int a, int b) {
            if (kind == HALVES) {
                return a ^ b;
            }
            if (kind == ROUND) {
                return a + b < order ? a + b : a + b - order;
            }
            int half = order >> 1;
            boolean flipA = a >= half;
            boolean flipB = b >= half;
            int k = flipA ? a - half : a;
            int l = flipB ? b - half : b;
            int together = flipA ? k + half - l : k + l;
            if (kind == FLIPS_OF_FOUR && flipA && flipB) {
                together += 2;
            }
            int rest = half < 1 ? 0 : together % half;
            return flipA == flipB ? rest : rest + half;
        }

        private void fillKins() {
            kins = 0;
            Rows.fill(kinSizes, 0);
            Rows.fill(kinOfTurns, NONE);
            for (int t = 0; t < order; t++) {
                if (Rows.at(kinOfTurns, t) != NONE) {
                    continue;
                }
                for (int c = 0; c < order; c++) {
                    Rows.put(kinOfTurns, times(times(c, t), against(c)), kins);
                }
                kins++;
            }
            for (int t = 0; t < order; t++) {
                Rows.add(kinSizes, Rows.at(kinOfTurns, t), 1);
            }
        }

        private void fillCounts() {
            Rows.fill(commutatorsOfTurns, 0);
            Rows.fill(rootsOfTurns, 0);
            for (int a = 0; a < order; a++) {
                Rows.add(rootsOfTurns, times(a, a), 1);
                for (int b = 0; b < order; b++) {
                    int ahead = times(a, b);
                    int behind = times(against(a), against(b));
                    Rows.add(commutatorsOfTurns, times(ahead, behind), 1);
                }
            }
        }

        boolean has(int turn) {
            return turn >= 0 && turn < order;
        }

        boolean hasKin(int kin) {
            return kin >= 0 && kin < kins;
        }

        int times(int a, int b) {
            int i = a * MOST + b;
            return i >= 0 && i < products.length ? products[i] : REST;
        }

        int against(int turn) {
            return turn >= 0 && turn < inverses.length ? inverses[turn] : REST;
        }

        boolean commute(int a, int b) {
            return times(a, b) == times(b, a);
        }

        int timesToRest(int turn) {
            int times = 1;
            int reached = turn;
            while (reached != REST && times < MOST) {
                reached = times(reached, turn);
                times++;
            }
            return times;
        }

        int kind() {
            return kind;
        }

        int order() {
            return order;
        }

        int kins() {
            return kins;
        }

        boolean isOfHalves() {
            return kind == HALVES;
        }

        int kinOf(int turn) {
            return Rows.at(kinOfTurns, turn);
        }

        int kinSize(int turn) {
            return Rows.at(kinSizes, kinOf(turn));
        }

        int commutators(int turn) {
            return Rows.at(commutatorsOfTurns, turn);
        }

        int roots(int turn) {
            return Rows.at(rootsOfTurns, turn);
        }
    }

    /**
     * A GROUP, size, SHAPE, WEIGHTS, HOLES and the TURNS on LINES. CORNERS and SQUARES have the
     * index Y * 4 + X in any size, LINES twice that of the CORNER that they go from, and 1 if
     * they go north: so an index tells its place without a table.
     */
    private static final class Board {
        private static final int ACROSS = 4;
        private static final int CORNERS = ACROSS * ACROSS;
        private static final int LINES = 2 * CORNERS;
        private static final int TUBE = 1;
        private static final int CLOSED = 2;

        private final Group group = new Group();
        private int wide;
        private int high;
        private int shape;
        private int texts;
        /** Columns and rows of CORNERS, each once. */
        private int columns;
        private int rows;
        private final int[] turns = new int[LINES];
        private final int[] weights = new int[Group.MOST];
        private final int[] holeMarks = new int[CORNERS];
        /** By which FRAMES of CORNERS would have to be changed to make one state another. */
        private final int[] frames = new int[CORNERS];

        Board() {
            wide = 1;
            high = 1;
            shape = 0;
            columns = 2;
            rows = 2;
            texts = 0;
            Rows.fill(weights, 1);
        }

        void copyFrom(Board other) {
            group.become(other.group.kind(), other.group.order());
            wide = other.wide;
            high = other.high;
            shape = other.shape;
            columns = other.columns;
            rows = other.rows;
            texts = other.texts;
            Rows.copy(other.turns, turns);
            Rows.copy(other.weights, weights);
            Rows.copy(other.holeMarks, holeMarks);
        }

        void startGroup() {
            Rows.fill(turns, REST);
            Rows.fill(weights, 1);
        }

        void startPlaces(int newWide, int newHigh, int newShape) {
            wide = newWide;
            high = newHigh;
            shape = newShape;
            columns = shape >= TUBE ? wide : wide + 1;
            rows = shape >= CLOSED ? high : high + 1;
            Rows.fill(turns, REST);
            Rows.fill(holeMarks, 0);
        }

        void weighKin(int turn, int weight) {
            for (int t = 0; t < group.order(); t++) {
                if (group.kinOf(t) == group.kinOf(turn)) {
                    Rows.put(weights, t, weight);
                }
            }
        }

        void makeHole(int square) {
            Rows.put(holeMarks, square, 1);
        }

        void countText() {
            texts++;
        }

        Group group() {
            return group;
        }

        int wide() {
            return wide;
        }

        int high() {
            return high;
        }

        int shape() {
            return shape;
        }

        int texts() {
            return texts;
        }

        int squares() {
            return wide * high;
        }

        boolean isFlat() {
            return shape < TUBE;
        }

        boolean isClosed() {
            return shape == CLOSED;
        }

        int corners() {
            return columns * rows;
        }

        int lines() {
            return wide * rows + columns * high;
        }

        int holes() {
            int holes = 0;
            for (int square = 0; square < CORNERS; square++) {
                holes += Rows.at(holeMarks, square);
            }
            return holes;
        }

        int cornerAt(int x, int y) {
            if (x < 0 || x > wide || y < 0 || y > high) {
                return NONE;
            }
            int column = x == columns ? 0 : x;
            int row = y == rows ? 0 : y;
            return row * ACROSS + column;
        }

        int lineAt(int x, int y, boolean north) {
            int corner = cornerAt(x, y);
            if (corner == NONE) {
                return NONE;
            }
            int line = 2 * corner + (north ? 1 : 0);
            return hasLine(line) ? line : NONE;
        }

        int squareAt(int x, int y) {
            return x < 0 || x >= wide || y < 0 || y >= high ? NONE : y * ACROSS + x;
        }

        static int columnOf(int place) {
            return place % ACROSS;
        }

        static int rowOf(int place) {
            return place / ACROSS;
        }

        static boolean isNorth(int line) {
            return line % 2 == 1;
        }

        static int beginOf(int line) {
            return line / 2;
        }

        int endOf(int line) {
            int x = columnOf(beginOf(line));
            int y = rowOf(beginOf(line));
            return isNorth(line) ? cornerAt(x, y + 1) : cornerAt(x + 1, y);
        }

        boolean hasLine(int line) {
            int x = columnOf(beginOf(line));
            int y = rowOf(beginOf(line));
            return isNorth(line) ? x < columns && y < high : x < wide && y < rows;
        }

        /** Whether a LINE is of the tree: column 0 northwards, and each row eastwards from it. */
        boolean isOfTree(int line) {
            int corner = beginOf(line);
            if (isNorth(line)) {
                return columnOf(corner) == 0 && rowOf(corner) + 1 < rows;
            }
            return columnOf(corner) + 1 < columns;
        }

        /** The LINES round a SQUARE (SIDE 0 to 3); the latter two are gone against. */
        int sideOf(int square, int side) {
            int x = columnOf(square);
            int y = rowOf(square);
            switch (side) {
                case 0: return lineAt(x, y, false);
                case 1: return lineAt(x + 1, y, true);
                case 2: return lineAt(x, y + 1, false);
                default: return lineAt(x, y, true);
            }
        }

        int turnOn(int line) {
            return Rows.at(turns, line);
        }

        void putTurn(int line, int turn) {
            Rows.put(turns, line, turn);
        }

        int turnRound(int square) {
            int east = turnOn(sideOf(square, 0));
            int north = turnOn(sideOf(square, 1));
            int west = group.against(turnOn(sideOf(square, 2)));
            int south = group.against(turnOn(sideOf(square, 3)));
            return group.times(group.times(east, north), group.times(west, south));
        }

        boolean isHole(int square) {
            return Rows.at(holeMarks, square) == 1;
        }

        int weight(int turn) {
            return Rows.at(weights, turn);
        }

        int weightIn(int square, int turn) {
            return isHole(square) ? 1 : weight(turn);
        }

        int weightSum() {
            int together = 0;
            for (int t = 0; t < group.order(); t++) {
                together += weight(t);
            }
            return together;
        }

        long worthOfTurns() {
            long worth = 1;
            for (int y = 0; y < high; y++) {
                for (int x = 0; x < wide; x++) {
                    int square = squareAt(x, y);
                    worth *= weightIn(square, turnRound(square));
                }
            }
            return worth;
        }

        int turnedSquares() {
            int turned = 0;
            for (int y = 0; y < high; y++) {
                for (int x = 0; x < wide; x++) {
                    int square = squareAt(x, y);
                    if (!isHole(square) && turnRound(square) != REST) {
                        turned++;
                    }
                }
            }
            return turned;
        }

        /** Changes the FRAME of a CORNER: how many LINES hold another TURN then. */
        int reframe(int corner, int turn) {
            int changed = 0;
            for (int line = 0; line < LINES; line++) {
                if (!hasLine(line)) {
                    continue;
                }
                int before = turnOn(line);
                int after = before;
                if (beginOf(line) == corner) {
                    after = group.times(turn, after);
                }
                if (endOf(line) == corner) {
                    after = group.times(after, group.against(turn));
                }
                putTurn(line, after);
                changed += after == before ? 0 : 1;
            }
            return changed;
        }

        boolean isReframed(Board other) {
            boolean samePlaces = wide == other.wide && high == other.high && shape == other.shape;
            boolean sameTurns = group.kind() == other.group.kind() && group.order() == other.group.order();
            if (!samePlaces || !sameTurns) {
                return false;
            }
            for (int t = 0; t < group.order(); t++) {
                if (isReframedFrom(t, other)) {
                    return true;
                }
            }
            return false;
        }

        /** The tree leaves one way, once the change at (0, 0) is chosen; the other LINES must agree. */
        private boolean isReframedFrom(int turn, Board other) {
            Rows.put(frames, 0, turn);
            for (int line = 0; line < LINES; line++) {
                if (hasLine(line) && isOfTree(line)) {
                    int frame = Rows.at(frames, beginOf(line));
                    int moved = group.times(frame, turnOn(line));
                    Rows.put(frames, endOf(line), group.times(group.against(other.turnOn(line)), moved));
                }
            }
            for (int line = 0; line < LINES; line++) {
                if (hasLine(line) && !agrees(line, other)) {
                    return false;
                }
            }
            return true;
        }

        private boolean agrees(int line, Board other) {
            int moved = group.times(Rows.at(frames, beginOf(line)), turnOn(line));
            return moved == group.times(other.turnOn(line), Rows.at(frames, endOf(line)));
        }

        void drawTurns(int seed) {
            Rows.fill(turns, REST);
            int latest = seed;
            for (int y = 0; y < high; y++) {
                for (int x = 0; x < wide; x++) {
                    latest = 1103515245 * latest + 12345;
                    int square = squareAt(x, y);
                    int turn = drawnTurn(square, (latest >>> 16) & 0x7fff);
                    int below = turnOn(sideOf(square, 0));
                    putTurn(sideOf(square, 2), group.times(group.against(turn), below));
                }
            }
        }

        private int drawnTurn(int square, int bits) {
            int together = isHole(square) ? group.order() : weightSum();
            int left = together < 1 ? 0 : bits % together;
            int turn = 0;
            while (turn < group.order() && left >= weightIn(square, turn)) {
                left -= weightIn(square, turn);
                turn++;
            }
            return turn;
        }
    }

    /** Bytes that wait to be read as a text. */
    private static final class Tape {
        private static final int MOST = 400;

        private final int[] bytes = new int[MOST];
        private int size;

        Tape() {
            size = 0;
        }

        boolean hasRoom(int more) {
            return size + more <= MOST;
        }

        void append(int number) {
            for (int shift = 24; shift >= 0; shift -= 8) {
                Rows.put(bytes, size, (number >>> shift) & 0xff);
                size++;
            }
        }

        boolean cutTo(int n) {
            if (n < 0 || n > size) {
                return false;
            }
            size = n;
            return true;
        }

        void clear() {
            size = 0;
        }

        int size() {
            return size;
        }

        /** NONE behind the last byte. */
        int byteAt(int place) {
            return place >= 0 && place < size && place < bytes.length ? bytes[place] : NONE;
        }
    }

    /** Goes along the TAPE, and keeps the first wrong byte. */
    private static final class Reader {
        private final Tape tape;
        private int place;
        /** Of the latest word or number. */
        private int begin;
        private int first;
        private int second;
        private int wrong;

        Reader(Tape tape) {
            this.tape = tape;
            place = 0;
            begin = 0;
            first = NONE;
            second = NONE;
            wrong = NONE;
        }

        void open() {
            place = 0;
            wrong = NONE;
        }

        int wrong() {
            return wrong;
        }

        int begin() {
            return begin;
        }

        int first() {
            return first;
        }

        int second() {
            return second;
        }

        boolean refuse(int where) {
            wrong = where;
            return false;
        }

        boolean refuseLatest() {
            return refuse(begin);
        }

        /** Refuses what comes next; without anything, that is the text's length. */
        boolean refuseNext() {
            hasMore();
            return refuse(place);
        }

        /** Passes over blanks: whether anything is left. */
        boolean hasMore() {
            while (place < tape.size() && tape.byteAt(place) == ' ') {
                place++;
            }
            return place < tape.size();
        }

        boolean isEnded() {
            return !hasMore() || refuse(place);
        }

        boolean passSemicolon() {
            if (!hasMore() || tape.byteAt(place) != ';') {
                return false;
            }
            place++;
            return true;
        }

        /** Without letters, an empty word is passed, which is none that a text knows. */
        void passWord() {
            hasMore();
            begin = place;
            while (place < tape.size() && tape.byteAt(place) >= 'a' && tape.byteAt(place) <= 'z') {
                place++;
            }
        }

        boolean isWord(String word) {
            if (place - begin != word.length()) {
                return false;
            }
            for (int i = 0; i < word.length(); i++) {
                if (tape.byteAt(begin + i) != word.charAt(i)) {
                    return false;
                }
            }
            return true;
        }

        /** NONE, and the begin of what is there is wrong, if it is no number in these bounds. */
        int number(int least, int most) {
            hasMore();
            begin = place;
            int value = 0;
            while (place < tape.size() && tape.byteAt(place) >= '0' && tape.byteAt(place) <= '9') {
                value = value * 10 + tape.byteAt(place) - '0';
                place++;
            }
            int digits = place - begin;
            if (digits < 1 || digits > 3 || value < least || value > most) {
                refuse(begin);
                return NONE;
            }
            return value;
        }

        boolean passTwo(int least, int most, int nextLeast, int nextMost) {
            first = number(least, most);
            second = first == NONE ? NONE : number(nextLeast, nextMost);
            return second != NONE;
        }
    }

    /** Reads a text of THE BOARD onto the draft. */
    private static final class BoardText {
        private final Reader reader;
        private final Board draft;

        BoardText(Reader reader, Board draft) {
            this.reader = reader;
            this.draft = draft;
        }

        boolean read() {
            reader.open();
            if (!reader.hasMore()) {
                return true;
            }
            for (int parts = 0; parts < MOST_PARTS; parts++) {
                if (!readPart()) {
                    return false;
                }
                if (!reader.passSemicolon()) {
                    return reader.isEnded();
                }
            }
            return reader.refuseNext();
        }

        private boolean readPart() {
            reader.passWord();
            if (reader.isWord("group")) {
                return readGroup();
            }
            if (reader.isWord("size")) {
                return readSize();
            }
            if (reader.isWord("shape")) {
                return readShape();
            }
            if (reader.isWord("weight")) {
                return readWeight();
            }
            if (reader.isWord("hole")) {
                return readHole();
            }
            if (reader.isWord("east")) {
                return readLine(false);
            }
            if (reader.isWord("north")) {
                return readLine(true);
            }
            return reader.refuseLatest();
        }

        private boolean readGroup() {
            if (!reader.passTwo(0, 3, 2, Group.MOST)) {
                return false;
            }
            if (!Group.exists(reader.first(), reader.second())) {
                return reader.refuseLatest();
            }
            draft.group().become(reader.first(), reader.second());
            draft.startGroup();
            return true;
        }

        private boolean readSize() {
            if (!reader.passTwo(1, 3, 1, 3)) {
                return false;
            }
            draft.startPlaces(reader.first(), reader.second(), draft.shape());
            return true;
        }

        private boolean readShape() {
            int shape = reader.number(0, 2);
            if (shape == NONE) {
                return false;
            }
            draft.startPlaces(draft.wide(), draft.high(), shape);
            return true;
        }

        private boolean readWeight() {
            if (!reader.passTwo(0, draft.group().order() - 1, 0, 9)) {
                return false;
            }
            draft.weighKin(reader.first(), reader.second());
            return true;
        }

        private boolean readHole() {
            if (!reader.passTwo(0, 3, 0, 3)) {
                return false;
            }
            int square = draft.squareAt(reader.first(), reader.second());
            if (square == NONE) {
                return reader.refuseLatest();
            }
            draft.makeHole(square);
            return true;
        }

        private boolean readLine(boolean north) {
            if (!reader.passTwo(0, 3, 0, 3)) {
                return false;
            }
            int line = draft.lineAt(reader.first(), reader.second(), north);
            if (line == NONE) {
                return reader.refuseLatest();
            }
            int turn = reader.number(0, draft.group().order() - 1);
            if (turn == NONE) {
                return false;
            }
            draft.putTurn(line, turn);
            return true;
        }
    }

    /** Reads a WALK, and goes it while it is read. */
    private static final class Walk {
        private static final int EAST = 0;
        private static final int NORTH = 1;
        private static final int WEST = 2;
        private static final int SOUTH = 3;

        private final Reader reader;
        private final Board board;
        private int first;
        private int x;
        private int y;
        private int length;
        private int comesTo;
        private final int[] visits = new int[Board.CORNERS];
        /** By LINES that go north: how often they are gone, less how often against them. */
        private final int[] rises = new int[Board.CORNERS];

        Walk(Reader reader, Board board) {
            this.reader = reader;
            this.board = board;
            first = 0;
            x = 0;
            y = 0;
            length = 0;
            comesTo = REST;
        }

        boolean read() {
            reader.open();
            if (!readBegin()) {
                return false;
            }
            for (int parts = 0; parts < MOST_PARTS; parts++) {
                if (!reader.passSemicolon()) {
                    return reader.isEnded();
                }
                if (!readPart()) {
                    return false;
                }
            }
            return reader.passSemicolon() ? reader.refuseNext() : reader.isEnded();
        }

        private boolean readBegin() {
            reader.passWord();
            if (!reader.isWord("from")) {
                return reader.refuseLatest();
            }
            if (!reader.passTwo(0, board.wide(), 0, board.high())) {
                return false;
            }
            begin(board.cornerAt(reader.first(), reader.second()));
            return true;
        }

        private void begin(int corner) {
            first = corner;
            x = Board.columnOf(corner);
            y = Board.rowOf(corner);
            length = 0;
            comesTo = REST;
            Rows.fill(visits, 0);
            Rows.fill(rises, 0);
        }

        private boolean readPart() {
            int lines = reader.number(1, 9);
            if (lines == NONE) {
                return false;
            }
            int begin = reader.begin();
            reader.passWord();
            int way = wayRead();
            if (way == NONE) {
                return reader.refuseLatest();
            }
            for (int i = 0; i < lines; i++) {
                if (!go(way)) {
                    return reader.refuse(begin);
                }
            }
            return true;
        }

        private int wayRead() {
            if (reader.isWord("east")) {
                return EAST;
            }
            if (reader.isWord("north")) {
                return NORTH;
            }
            if (reader.isWord("west")) {
                return WEST;
            }
            return reader.isWord("south") ? SOUTH : NONE;
        }

        private boolean go(int way) {
            boolean against = way == WEST || way == SOUTH;
            boolean north = way == NORTH || way == SOUTH;
            if (against) {
                stepBehind(way);
            }
            int line = board.lineAt(x, y, north);
            if (line == NONE) {
                return false;
            }
            int turn = board.turnOn(line);
            comesTo = board.group().times(comesTo, against ? board.group().against(turn) : turn);
            if (north) {
                Rows.add(rises, Board.beginOf(line), against ? -1 : 1);
            }
            arrive(against ? Board.beginOf(line) : board.endOf(line));
            return true;
        }

        /** Goes to where the LINE begins that will be gone against; on a flat BOARD perhaps off it. */
        private void stepBehind(int way) {
            if (way == WEST) {
                x = x == 0 && !board.isFlat() ? board.wide() - 1 : x - 1;
            } else {
                y = y == 0 && board.isClosed() ? board.high() - 1 : y - 1;
            }
        }

        private void arrive(int corner) {
            x = Board.columnOf(corner);
            y = Board.rowOf(corner);
            length++;
            Rows.add(visits, corner, 1);
        }

        int comesTo() {
            return comesTo;
        }

        int length() {
            return length;
        }

        boolean isClosed() {
            return board.cornerAt(x, y) == first;
        }

        /** Whether it is CLOSED, comes to no CORNER twice and has 4 LINES. */
        boolean isSimple() {
            for (int corner = 0; corner < Board.CORNERS; corner++) {
                if (Rows.at(visits, corner) > 1) {
                    return false;
                }
            }
            return isClosed() && length >= 4;
        }

        /** 1 if it goes round the SQUARE as ROUND does, -1 if the other way, 0 if not at all. */
        int windsRound(int squareX, int squareY) {
            int winds = 0;
            for (int column = squareX + 1; column <= board.wide(); column++) {
                winds += Rows.at(rises, squareY * Board.ACROSS + column);
            }
            return winds;
        }

        int squaresWithin() {
            int within = 0;
            for (int row = 0; row < board.high(); row++) {
                for (int column = 0; column < board.wide(); column++) {
                    within += windsRound(column, row) == 0 ? 0 : 1;
                }
            }
            return within;
        }
    }

    /** Changes by hand that can be undone, and behind them those that can be redone. */
    private static final class History {
        private static final int MOST = 20;

        private final Board board;
        /** A LINE, or a CORNER behind all LINES. */
        private final int[] places = new int[MOST];
        private final int[] backwards = new int[MOST];
        private final int[] forwards = new int[MOST];
        private int done;
        private int known;

        History(Board board) {
            this.board = board;
            done = 0;
            known = 0;
        }

        void forget() {
            done = 0;
            known = 0;
        }

        void noteLine(int line, int before, int after) {
            note(line, before, after);
        }

        void noteFrame(int corner, int against, int turn) {
            note(Board.LINES + corner, against, turn);
        }

        private void note(int place, int backward, int forward) {
            if (done >= MOST) {
                dropOldest();
            }
            Rows.put(places, done, place);
            Rows.put(backwards, done, backward);
            Rows.put(forwards, done, forward);
            done++;
            known = done;
        }

        private void dropOldest() {
            for (int i = 1; i < MOST; i++) {
                Rows.put(places, i - 1, Rows.at(places, i));
                Rows.put(backwards, i - 1, Rows.at(backwards, i));
                Rows.put(forwards, i - 1, Rows.at(forwards, i));
            }
            done = MOST - 1;
        }

        boolean takeBack() {
            if (done < 1) {
                return false;
            }
            done--;
            apply(Rows.at(places, done), Rows.at(backwards, done));
            return true;
        }

        boolean doAgain() {
            if (done >= known) {
                return false;
            }
            apply(Rows.at(places, done), Rows.at(forwards, done));
            done++;
            return true;
        }

        private void apply(int place, int turn) {
            if (place < Board.LINES) {
                board.putTurn(place, turn);
            } else {
                board.reframe(place - Board.LINES, turn);
            }
        }

        int undoable() {
            return done;
        }

        int redoable() {
            return known - done;
        }
    }

    /**
     * Sums over STATES without listing them. What SQUARES have ROUND them is free on a flat BOARD;
     * a tube leaves one TURN more; closed, all of it, one by another, is a COMMUTATOR. As WEIGHTS
     * are those of KINS, it does not matter in which order or from which CORNER that is told.
     */
    private static final class Sums {
        private final Board board;
        private final Group group;
        /** By TURNS: the worth of all ways by which so far it has come to that TURN. */
        private final long[] ways = new long[Group.MOST];
        private final long[] next = new long[Group.MOST];
        /** By TURNS: the worth of what comes behind it. */
        private final long[] factor = new long[Group.MOST];

        Sums(Board board) {
            this.board = board;
            group = board.group();
        }

        private void begin() {
            Rows.fill(ways, 0);
            Rows.put(ways, REST, 1);
        }

        private void multiply(int times) {
            for (int i = 0; i < times; i++) {
                multiplyOnce();
            }
        }

        private void multiplyOnce() {
            Rows.fill(next, 0);
            for (int a = 0; a < group.order(); a++) {
                for (int b = 0; b < group.order(); b++) {
                    Rows.add(next, group.times(a, b), Rows.at(ways, a) * Rows.at(factor, b));
                }
            }
            for (int t = 0; t < group.order(); t++) {
                Rows.put(ways, t, Rows.at(next, t));
            }
        }

        private void takeSquare(int square) {
            for (int t = 0; t < group.order(); t++) {
                Rows.put(factor, t, board.weightIn(square, t));
            }
        }

        private void takeSame(long ofRest, long ofOthers) {
            for (int t = 0; t < group.order(); t++) {
                Rows.put(factor, t, t == REST ? ofRest : ofOthers);
            }
        }

        private long together(long[] row) {
            long together = 0;
            for (int t = 0; t < group.order(); t++) {
                together += Rows.at(row, t);
            }
            return together;
        }

        /** The worth of all STATES, once all SQUARES are in the ways. */
        private long overShape() {
            if (board.isFlat()) {
                return together(ways);
            }
            if (!board.isClosed()) {
                return group.order() * together(ways);
            }
            long worth = 0;
            for (int t = 0; t < group.order(); t++) {
                worth += Rows.at(ways, t) * group.commutators(t);
            }
            return worth;
        }

        long ofStates() {
            begin();
            for (int y = 0; y < board.high(); y++) {
                for (int x = 0; x < board.wide(); x++) {
                    takeSquare(board.squareAt(x, y));
                    multiplyOnce();
                }
            }
            return overShape();
        }

        long statesTurned(int k) {
            int holes = board.holes();
            int others = board.squares() - holes;
            if (k < 0 || k > others) {
                return 0;
            }
            begin();
            takeSame(0, 1);
            multiply(k);
            takeSame(1, 1);
            multiply(holes);
            return choices(others, k) * overShape();
        }

        /** Counted out, as there are nine SQUARES at most. */
        private static long choices(int all, int some) {
            long choices = 0;
            for (int set = 0; set < 1 << all; set++) {
                choices += Integer.bitCount(set) == some ? 1 : 0;
            }
            return choices;
        }

        long ofWalk(Walk walk, int kin) {
            begin();
            long outside = 1;
            boolean otherWay = false;
            for (int y = 0; y < board.high(); y++) {
                for (int x = 0; x < board.wide(); x++) {
                    takeSquare(board.squareAt(x, y));
                    int winds = walk.windsRound(x, y);
                    if (winds == 0) {
                        outside *= together(factor);
                    } else {
                        multiplyOnce();
                        otherWay = winds < 0;
                    }
                }
            }
            long inside = 0;
            for (int t = 0; t < group.order(); t++) {
                if (group.kinOf(otherWay ? group.against(t) : t) == kin) {
                    inside += Rows.at(ways, t);
                }
            }
            return inside * outside;
        }

        int restsInAll() {
            if (board.isFlat()) {
                return 1;
            }
            return board.isClosed() ? group.commutators(REST) : group.order();
        }

        int restsOnce() {
            if (board.isFlat()) {
                return 1;
            }
            return board.isClosed() ? commutingPairsOnce() : group.kins();
        }

        /** By Burnside: those that a change at (0, 0) leaves as they are, over all such changes. */
        private int commutingPairsOnce() {
            int order = group.order();
            int left = 0;
            for (int a = 0; a < order; a++) {
                for (int b = 0; b < order; b++) {
                    for (int c = 0; c < order && group.commute(a, b); c++) {
                        left += group.commute(c, a) && group.commute(c, b) ? 1 : 0;
                    }
                }
            }
            return order < 1 ? 0 : left / order;
        }

        long ofBody(int squares, int handles, int crosses) {
            begin();
            for (int t = 0; t < group.order(); t++) {
                Rows.put(factor, t, board.weight(t));
            }
            multiply(squares);
            for (int t = 0; t < group.order(); t++) {
                Rows.put(factor, t, group.commutators(t));
            }
            multiply(handles);
            for (int t = 0; t < group.order(); t++) {
                Rows.put(factor, t, group.roots(t));
            }
            multiply(crosses);
            return Rows.at(ways, REST);
        }

        int dualOf(int turn) {
            int dual = 0;
            for (int t = 0; t < group.order(); t++) {
                dual += Integer.bitCount(t & turn) % 2 == 0 ? board.weight(t) : -board.weight(t);
            }
            return dual;
        }

        long ofDuals() {
            long together = 0;
            for (int t = 0; t < group.order(); t++) {
                long duals = 1;
                for (int y = 0; y < board.high(); y++) {
                    for (int x = 0; x < board.wide(); x++) {
                        boolean hole = board.isHole(board.squareAt(x, y));
                        int ofHole = t == REST ? group.order() : 0;
                        duals *= hole ? ofHole : dualOf(t);
                    }
                }
                together += duals;
            }
            return group.order() * together;
        }
    }

    /** Lists STATES: LINES of the tree stay at REST, each other one has a level, and takes every TURN there. */
    private static final class Listing {
        private static final int MOST_SQUARES = 4;
        private static final int SIDES = 4;
        /** One LINE more than there are SQUARES, of eight TURNS each. */
        private static final int MOST_STATES = 32768;

        private final Board board;
        private final Group group;
        private int levels;
        private int squares;
        private final int[] lineOfLevel = new int[Board.LINES];
        private final int[] levelOfLine = new int[Board.LINES];
        private final int[] turns = new int[Board.LINES];
        private final int[] sides = new int[MOST_SQUARES * SIDES];
        /** By SQUARES: the level that tells the last LINE of it. */
        private final int[] lastLevels = new int[MOST_SQUARES];
        private final int[] weights = new int[MOST_SQUARES * Group.MOST];
        /** By levels: what the SQUARES are worth whose last LINE is told ahead of that level. */
        private final long[] worths = new long[Board.LINES + 1];

        Listing(Board board) {
            this.board = board;
            group = board.group();
            levels = 0;
            squares = 0;
        }

        long ofStates() {
            findLevels();
            findSquares();
            Rows.put(worths, 0, 1);
            long together = 0;
            int changed = 0;
            for (int state = 0; state < MOST_STATES && changed != NONE; state++) {
                weighFrom(changed);
                together += Rows.at(worths, levels);
                changed = goOn();
            }
            return together;
        }

        private void findLevels() {
            levels = 0;
            for (int line = 0; line < Board.LINES; line++) {
                Rows.put(turns, line, REST);
                Rows.put(levelOfLine, line, NONE);
                if (board.hasLine(line) && !board.isOfTree(line)) {
                    Rows.put(levelOfLine, line, levels);
                    Rows.put(lineOfLevel, levels, line);
                    levels++;
                }
            }
        }

        private void findSquares() {
            squares = 0;
            for (int y = 0; y < board.high(); y++) {
                for (int x = 0; x < board.wide(); x++) {
                    findSquare(board.squareAt(x, y));
                    squares++;
                }
            }
        }

        private void findSquare(int square) {
            int last = 0;
            for (int side = 0; side < SIDES; side++) {
                int line = board.sideOf(square, side);
                Rows.put(sides, squares * SIDES + side, line);
                last = Math.max(last, Rows.at(levelOfLine, line));
            }
            Rows.put(lastLevels, squares, last);
            for (int t = 0; t < group.order(); t++) {
                Rows.put(weights, squares * Group.MOST + t, board.weightIn(square, t));
            }
        }

        /** Goes to the next STATE: the first level on which it is another one, NONE behind the last STATE. */
        private int goOn() {
            for (int level = levels - 1; level >= 0; level--) {
                int line = Rows.at(lineOfLevel, level);
                int next = Rows.at(turns, line) + 1;
                if (next < group.order()) {
                    Rows.put(turns, line, next);
                    return level;
                }
                Rows.put(turns, line, REST);
            }
            return NONE;
        }

        private void weighFrom(int changed) {
            for (int level = changed; level < levels; level++) {
                long worth = Rows.at(worths, level);
                for (int i = 0; i < squares; i++) {
                    if (Rows.at(lastLevels, i) == level) {
                        worth *= Rows.at(weights, i * Group.MOST + comesRound(i * SIDES));
                    }
                }
                Rows.put(worths, level + 1, worth);
            }
        }

        private int comesRound(int side) {
            int east = turnOf(side);
            int north = turnOf(side + 1);
            int west = group.against(turnOf(side + 2));
            int south = group.against(turnOf(side + 3));
            return group.times(group.times(east, north), group.times(west, south));
        }

        private int turnOf(int side) {
            return Rows.at(turns, Rows.at(sides, side));
        }
    }
}
