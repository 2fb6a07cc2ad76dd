/**
 * A loader of aircraft: the promises of ../shared/DOC.md, within the Java of ../shared/LANGUAGE.md.
 * All rows are made with the object and used again, so that no call makes anything.
 */
public final class LoadSpans {
    public static final int NONE = -1;

    private static final int TAPE_MOST = 540;
    private static final int FEED_BYTES = 20;
    private static final int PLANE_MOST = 500;
    private static final int CARGO_MOST = 300;
    private static final int FAULT_ANSWER = -1000;
    private static final int NO_STAGE = -1000000;

    private static final int HOLDS = 3;
    private static final int SPOTS = 6;
    private static final int BINS = 2;
    private static final int TANKS = 3;
    private static final int STAGES = 12;
    private static final int STOPS = 4;
    private static final int PALLETS = 5;
    private static final int LETTERS = 8;
    private static final int KEPT = 8;
    private static final int LAST_STOP = 9;

    private static final int WEIGHT_MOST = 999;
    private static final int PIECE_MOST = 99;
    private static final int ARM_MOST = 99;
    private static final int BULK_MOST = 198;
    private static final int SPARE_MOST = 99;

    private static final int ODD_TOKEN = 1;
    private static final int WRONG_NUMBER = 2;
    private static final int WRONG_WORD = 3;
    private static final int ONE_TOO_MANY = 4;
    private static final int NO_FLOOR = 5;

    private static final int OUT_RULE = 1;
    private static final int SPOT_RULE = 2;
    private static final int JOINT_RULE = 3;
    private static final int HOLD_RULE = 4;
    private static final int BULK_RULE = 5;
    private static final int BLOCKED_RULE = 6;
    private static final int SPAN_RULE = 7;

    private final Reader reader = new Reader();
    private int faultKind;
    private Plane planeNow = new Plane();
    private Plane planeDraft = new Plane();
    private Cargo cargoNow = new Cargo();
    private Cargo cargoDraft = new Cargo();
    private final History history = new History();
    private final Image firstImage = new Image();
    private final Image secondImage = new Image();
    private final Table table = new Table();
    private final Mender mender = new Mender();

    public LoadSpans() {
    }

    public int feed(int a, int b, int c, int d, int e) {
        Tokens tape = reader.tokens;
        if (tape.length + FEED_BYTES > TAPE_MOST) {
            return NONE;
        }
        tape.addBytes(a);
        tape.addBytes(b);
        tape.addBytes(c);
        tape.addBytes(d);
        tape.addBytes(e);
        return tape.length;
    }

    public boolean end(int n) {
        if (n < 0 || n > reader.tokens.length) {
            return false;
        }
        reader.tokens.length = n;
        return true;
    }

    public int plane() {
        reader.readPlane(planeDraft);
        faultKind = reader.tokens.fault;
        if (faultKind != 0) {
            return FAULT_ANSWER - reader.tokens.place;
        }
        Plane old = planeNow;
        planeNow = planeDraft;
        planeDraft = old;
        startAnew();
        return planeNow.floor.spotCount;
    }

    public int cargo() {
        reader.readCargo(cargoDraft);
        faultKind = reader.tokens.fault;
        if (faultKind != 0) {
            return FAULT_ANSWER - reader.tokens.place;
        }
        Cargo old = cargoNow;
        cargoNow = cargoDraft;
        cargoDraft = old;
        startAnew();
        return cargoNow.size;
    }

    public int fault() {
        return faultKind;
    }

    public int count(int what) {
        switch (what) {
            case 0: return planeNow.floor.holdCount;
            case 1: return planeNow.floor.spotCount;
            case 2: return planeNow.floor.jointCount;
            case 3: return planeNow.binCount;
            case 4: return planeNow.voyage.tankCount;
            case 5: return planeNow.voyage.stageCount;
            case 6: return planeNow.voyage.stopCount;
            case 7: return cargoNow.size;
            case 8: return cargoNow.bulk;
            case 9: return cargoNow.outCount();
            case 10: return reader.tokens.length;
            default: return NONE;
        }
    }

    public int pallet(int k, int what) {
        if (!cargoNow.has(k)) {
            return NONE;
        }
        switch (what) {
            case 0: return cargoNow.weight[k];
            case 1: return cargoNow.stop[k];
            case 2: return cargoNow.spot[k];
            case 3: return Tokens.lettersOf(cargoNow.name[k]);
            default: return NONE;
        }
    }

    public int named() {
        Tokens tape = reader.tokens;
        long name = tape.packed(0, tape.length);
        tape.length = 0;
        return cargoNow.called(name);
    }

    public int spot(int s, int what) {
        Floor floor = planeNow.floor;
        if (!floor.hasSpot(s)) {
            return NONE;
        }
        switch (what) {
            case 0: return floor.spotHold[s];
            case 1: return floor.spotArm[s];
            case 2: return floor.spotLimit[s];
            case 3: return cargoNow.lyingOn(s);
            case 4: return floor.spotWay[s];
            default: return NONE;
        }
    }

    public int in(int what, int k) {
        if (what == 0 && planeNow.hasBin(k)) {
            return cargoNow.inBin[k];
        }
        if (what == 1 && planeNow.voyage.hasTank(k)) {
            return planeNow.voyage.tankFill[k];
        }
        if (what == 2 && planeNow.floor.hasHold(k)) {
            return Rules.loadOfHold(planeNow.floor, cargoNow, k);
        }
        return NONE;
    }

    public int put(int k, int s) {
        if (!cargoNow.has(k) || !planeNow.floor.hasSpot(s)) {
            return NONE;
        }
        int there = cargoNow.lyingOn(s);
        if (there == k) {
            return 2;
        }
        if (there != NONE) {
            return 1;
        }
        history.keep(cargoNow);
        cargoNow.spot[k] = s;
        return 0;
    }

    public int off(int k) {
        if (!cargoNow.has(k) || cargoNow.spot[k] == NONE) {
            return NONE;
        }
        history.keep(cargoNow);
        int left = cargoNow.spot[k];
        cargoNow.spot[k] = NONE;
        return left;
    }

    public int pour(int b, int n) {
        if (!planeNow.hasBin(b) || n < 0 || n > planeNow.binLimit[b]) {
            return NONE;
        }
        if (cargoNow.inBin[b] == n) {
            return 1;
        }
        history.keep(cargoNow);
        cargoNow.inBin[b] = n;
        return 0;
    }

    public int why() {
        return Rules.firstBroken(planeNow, cargoNow);
    }

    public int where() {
        return Rules.brokenAt(Rules.firstBroken(planeNow, cargoNow), planeNow, cargoNow);
    }

    public int stage(int i, int what) {
        if (i < 0 || i > planeNow.voyage.stageCount) {
            return NO_STAGE;
        }
        int weight = Rules.weightAt(planeNow, cargoNow, i);
        int moment = Rules.momentAt(planeNow, cargoNow, i);
        switch (what) {
            case 0: return weight;
            case 1: return moment;
            case 2: return moment - weight * planeNow.lesserArm;
            case 3: return weight * planeNow.greaterArm - moment;
            default: return NO_STAGE;
        }
    }

    public int blocks(int k) {
        return cargoNow.has(k) ? Rules.blockersOf(planeNow.floor, cargoNow, k) : NONE;
    }

    public int loadings() {
        return freshTable().total();
    }

    public int loading(int i, int k) {
        int row = freshTable().rowOf(i);
        return row == NONE || !cargoNow.has(k) ? NONE : table.spotIn(row, k);
    }

    public int poured(int i, int b) {
        int row = freshTable().rowOf(i);
        return row == NONE || !planeNow.hasBin(b) ? NONE : table.amountIn(i, row, b);
    }

    public int take(int i) {
        int row = freshTable().rowOf(i);
        if (row == NONE) {
            return NONE;
        }
        history.keep(cargoNow);
        int elsewhere = 0;
        for (int k = 0; k < cargoNow.size; k++) {
            int s = table.spotIn(row, k);
            if (cargoNow.spot[k] != s) {
                elsewhere++;
            }
            cargoNow.spot[k] = s;
        }
        for (int b = 0; b < planeNow.binCount; b++) {
            cargoNow.inBin[b] = table.amountIn(i, row, b);
        }
        return elsewhere;
    }

    public int handlings(int i) {
        int row = freshTable().rowOf(i);
        return row == NONE ? NONE : Rules.timesThroughDoors(planeNow.floor, cargoNow, table, row);
    }

    public int mend() {
        int moves = mender.seek(planeNow, cargoNow, freshTable());
        if (moves != NONE) {
            mender.tell(moves);
        }
        return moves;
    }

    public int move(int i) {
        return mender.toldMove(i);
    }

    public int mended() {
        int moves = mender.seek(planeNow, cargoNow, freshTable());
        if (moves > 0) {
            history.keep(cargoNow);
            mender.putAllInto(cargoNow);
        }
        return moves;
    }

    public int spare(int k) {
        if (!cargoNow.has(k) || Rules.firstBroken(planeNow, cargoNow) != 0) {
            return NONE;
        }
        int weight = cargoNow.weight[k];
        int more = 0;
        for (int tried = 1; tried <= SPARE_MOST; tried++) {
            cargoNow.weight[k] = weight + tried;
            if (Rules.firstBroken(planeNow, cargoNow) != 0) {
                break;
            }
            more = tried;
        }
        cargoNow.weight[k] = weight;
        return more;
    }

    public int swaps() {
        int pairs = 0;
        for (int k = 0; k < cargoNow.size; k++) {
            for (int other = k + 1; other < cargoNow.size; other++) {
                if (cargoNow.spot[k] == NONE || cargoNow.spot[other] == NONE) {
                    continue;
                }
                changePlaces(k, other);
                if (Rules.firstBroken(planeNow, cargoNow) == 0) {
                    pairs++;
                }
                changePlaces(k, other);
            }
        }
        return pairs;
    }

    public int come(int weight, int stop) {
        boolean asTold = weight >= 1 && weight <= PIECE_MOST && stop >= 1 && stop <= LAST_STOP;
        if (!asTold || cargoNow.size >= PALLETS) {
            return NONE;
        }
        history.keep(cargoNow);
        table.forget();
        cargoNow.add(0, weight, stop);
        return cargoNow.size - 1;
    }

    public int drop(int k) {
        if (!cargoNow.has(k)) {
            return NONE;
        }
        history.keep(cargoNow);
        table.forget();
        cargoNow.moveLast(k);
        cargoNow.size--;
        return cargoNow.size;
    }

    public int again(int k) {
        if (!cargoNow.has(k)) {
            return NONE;
        }
        history.keep(cargoNow);
        table.forget();
        cargoNow.moveLast(k);
        return cargoNow.size - 1;
    }

    public int weigh(int k, int w) {
        if (!cargoNow.has(k) || w < 1 || w > PIECE_MOST) {
            return NONE;
        }
        if (cargoNow.weight[k] == w) {
            return 1;
        }
        history.keep(cargoNow);
        table.forget();
        cargoNow.weight[k] = w;
        return 0;
    }

    public int undo() {
        if (history.size == 0) {
            return NONE;
        }
        table.forget();
        history.bringBack(cargoNow);
        return history.size;
    }

    public boolean image(int k) {
        Image kept = imageAt(k);
        if (kept == null) {
            return false;
        }
        kept.filled = true;
        kept.plane.copyFrom(planeNow);
        kept.cargo.copyFrom(cargoNow);
        return true;
    }

    public boolean restore(int k) {
        Image kept = imageAt(k);
        if (kept == null || !kept.filled) {
            return false;
        }
        planeNow.copyFrom(kept.plane);
        cargoNow.copyFrom(kept.cargo);
        history.size = 0;
        table.forget();
        return true;
    }

    private void startAnew() {
        cargoNow.clearPlaces();
        history.size = 0;
        table.forget();
    }

    private Table freshTable() {
        table.makeFor(planeNow, cargoNow);
        return table;
    }

    private void changePlaces(int k, int other) {
        int s = cargoNow.spot[k];
        cargoNow.spot[k] = cargoNow.spot[other];
        cargoNow.spot[other] = s;
    }

    private Image imageAt(int k) {
        if (k == 0) {
            return firstImage;
        }
        return k == 1 ? secondImage : null;
    }

    /** The tape, and its tokens one by one; the first FAULT stays, and nothing is read behind it. */
    private static final class Tokens {
        static final int TEXT_END = 0;
        static final int WORD = 1;
        static final int NUMBER = 2;
        static final int SEMICOLON = 3;
        static final int ODD = 4;
        static final int LETTER_BITS = 5;
        static final int DIGITS_MOST = 3;

        final int[] text = new int[TAPE_MOST];
        int length;
        int fault;
        int place;
        int kind;
        private int from;
        private int to;

        void addBytes(int number) {
            for (int shift = 24; shift >= 0; shift -= 8) {
                if (length < text.length) {
                    text[length] = (number >>> shift) & 255;
                    length++;
                }
            }
        }

        void begin(int most) {
            from = 0;
            to = 0;
            kind = TEXT_END;
            fault = 0;
            place = 0;
            if (length > most) {
                from = most;
                fail(ODD_TOKEN);
            }
        }

        void fail(int faultKind) {
            if (fault == 0) {
                fault = faultKind;
                place = from;
            }
        }

        void next() {
            if (fault != 0) {
                return;
            }
            for (from = to; from < length && text[from] == ' '; from++) {
                continue;
            }
            to = from;
            if (from >= length) {
                kind = TEXT_END;
                return;
            }
            if (text[from] == ';') {
                to = from + 1;
                kind = SEMICOLON;
                return;
            }
            int digits = 0;
            for (to = from; to < length && (isLetter(text[to]) || isDigit(text[to])); to++) {
                digits += isDigit(text[to]) ? 1 : 0;
            }
            kind = kindOf(to - from, digits);
        }

        int number(int least, int most) {
            next();
            if (fault != 0) {
                return 0;
            }
            if (kind != NUMBER) {
                fail(ODD_TOKEN);
                return 0;
            }
            int value = 0;
            for (int i = from; i < to; i++) {
                value = value * 10 + text[i] - '0';
            }
            if (value < least || value > most) {
                fail(WRONG_NUMBER);
            }
            return value;
        }

        long newWord() {
            next();
            if (fault != 0) {
                return 0;
            }
            if (kind != WORD || isQuoted()) {
                fail(ODD_TOKEN);
            }
            return packed(from, to);
        }

        void lineEnd() {
            next();
            if (kind != SEMICOLON) {
                fail(ODD_TOKEN);
            }
        }

        boolean tells(String quoted) {
            if (fault != 0 || kind != WORD || to - from != quoted.length()) {
                return false;
            }
            for (int i = 0; i < quoted.length(); i++) {
                if (text[from + i] != quoted.charAt(i)) {
                    return false;
                }
            }
            return true;
        }

        private boolean isQuoted() {
            return tells("empty") || tells("span") || tells("hold") || tells("front") || tells("back")
                || tells("spot") || tells("joint") || tells("bin") || tells("tank") || tells("burn")
                || tells("stop") || tells("pallet") || tells("bulk");
        }

        private static int kindOf(int size, int digits) {
            if (digits == 0 && size >= 1 && size <= LETTERS) {
                return WORD;
            }
            return digits == size && size >= 1 && size <= DIGITS_MOST ? NUMBER : ODD;
        }

        private static boolean isLetter(int c) {
            return c >= 'a' && c <= 'z';
        }

        private static boolean isDigit(int c) {
            return c >= '0' && c <= '9';
        }

        /** The word that these bytes are as one number, by which words are kept and compared; 0: they are none. */
        long packed(int first, int end) {
            if (first < 0 || end > length || end - first > LETTERS) {
                return 0;
            }
            long letters = 0;
            for (int i = first; i < end; i++) {
                if (!isLetter(text[i])) {
                    return 0;
                }
                letters = (letters << LETTER_BITS) + (text[i] - 'a' + 1);
            }
            return letters;
        }

        static int lettersOf(long packed) {
            int letters = 0;
            for (int i = 0; i < LETTERS; i++) {
                if (packed >>> (LETTER_BITS * i) != 0) {
                    letters++;
                }
            }
            return letters;
        }
    }

    /** Reads the texts of PLANE and CARGO, LINE by LINE, into an object that is thrown away at a FAULT. */
    private static final class Reader {
        final Tokens tokens = new Tokens();
        private boolean emptyTold;
        private boolean spanTold;
        private boolean bulkTold;

        void readPlane(Plane plane) {
            emptyTold = false;
            spanTold = false;
            plane.clear();
            tokens.begin(PLANE_MOST);
            for (int line = 0; line < PLANE_MOST && atLine(); line++) {
                if (tokens.tells("empty")) {
                    readEmpty(plane);
                } else if (tokens.tells("span")) {
                    readSpan(plane);
                } else if (tokens.tells("hold")) {
                    readHold(plane);
                } else if (tokens.tells("spot")) {
                    readSpot(plane.floor);
                } else if (tokens.tells("joint")) {
                    readJoint(plane.floor);
                } else if (tokens.tells("bin")) {
                    readBin(plane);
                } else if (tokens.tells("tank")) {
                    readTank(plane);
                } else if (tokens.tells("burn")) {
                    readBurn(plane.voyage);
                } else if (tokens.tells("stop")) {
                    readStop(plane.voyage);
                } else {
                    tokens.fail(ODD_TOKEN);
                }
                tokens.lineEnd();
            }
            plane.voyage.reckon(plane.emptyWeight, plane.emptyArm);
            tokens.length = 0;
        }

        void readCargo(Cargo cargo) {
            bulkTold = false;
            cargo.clear();
            tokens.begin(CARGO_MOST);
            for (int line = 0; line < CARGO_MOST && atLine(); line++) {
                if (tokens.tells("pallet")) {
                    readPallet(cargo);
                } else if (tokens.tells("bulk")) {
                    readBulk(cargo);
                } else {
                    tokens.fail(ODD_TOKEN);
                }
                tokens.lineEnd();
            }
            tokens.length = 0;
        }

        private boolean atLine() {
            tokens.next();
            return tokens.fault == 0 && tokens.kind != Tokens.TEXT_END;
        }

        private void readEmpty(Plane plane) {
            if (emptyTold) {
                tokens.fail(WRONG_WORD);
            }
            emptyTold = true;
            plane.emptyWeight = tokens.number(1, WEIGHT_MOST);
            plane.emptyArm = tokens.number(0, ARM_MOST);
        }

        private void readSpan(Plane plane) {
            if (spanTold) {
                tokens.fail(WRONG_WORD);
            }
            spanTold = true;
            plane.lesserArm = tokens.number(0, ARM_MOST);
            plane.greaterArm = tokens.number(plane.lesserArm + 1, ARM_MOST);
        }

        private void readHold(Plane plane) {
            if (plane.floor.holdCount >= HOLDS) {
                tokens.fail(ONE_TOO_MANY);
            }
            long name = newName(plane);
            int limit = tokens.number(1, WEIGHT_MOST);
            boolean front = isFrontDoor();
            if (tokens.fault == 0) {
                plane.floor.addHold(name, limit, front);
            }
        }

        private boolean isFrontDoor() {
            tokens.next();
            boolean front = tokens.tells("front");
            if (!front && !tokens.tells("back")) {
                tokens.fail(ODD_TOKEN);
            }
            return front;
        }

        private void readSpot(Floor floor) {
            if (floor.spotCount >= SPOTS) {
                tokens.fail(ONE_TOO_MANY);
            }
            if (floor.holdCount == 0) {
                tokens.fail(NO_FLOOR);
            }
            int arm = tokens.number(0, ARM_MOST);
            int limit = tokens.number(1, PIECE_MOST);
            if (tokens.fault == 0) {
                floor.addSpot(arm, limit);
            }
        }

        private void readJoint(Floor floor) {
            if (!floor.takesJoint()) {
                tokens.fail(NO_FLOOR);
            }
            int limit = tokens.number(1, WEIGHT_MOST);
            if (tokens.fault == 0) {
                floor.addJoint(limit);
            }
        }

        private void readBin(Plane plane) {
            if (plane.binCount >= BINS) {
                tokens.fail(ONE_TOO_MANY);
            }
            int arm = tokens.number(0, ARM_MOST);
            int limit = tokens.number(1, PIECE_MOST);
            if (tokens.fault == 0) {
                plane.addBin(arm, limit);
            }
        }

        private void readTank(Plane plane) {
            if (plane.voyage.tankCount >= TANKS) {
                tokens.fail(ONE_TOO_MANY);
            }
            long name = newName(plane);
            int arm = tokens.number(0, ARM_MOST);
            int fill = tokens.number(1, PIECE_MOST);
            if (tokens.fault == 0) {
                plane.voyage.addTank(name, arm, fill);
            }
        }

        private void readBurn(Voyage voyage) {
            if (voyage.stageCount >= STAGES) {
                tokens.fail(ONE_TOO_MANY);
            }
            int tank = voyage.tankCalled(tokens.newWord());
            if (tank == NONE) {
                tokens.fail(WRONG_WORD);
            }
            int amount = tokens.number(1, voyage.leftIn(tank));
            if (tokens.fault == 0) {
                voyage.addBurn(tank, amount);
            }
        }

        private void readStop(Voyage voyage) {
            if (voyage.stageCount >= STAGES || voyage.stopCount >= STOPS) {
                tokens.fail(ONE_TOO_MANY);
            } else {
                voyage.addStop();
            }
        }

        private long newName(Plane plane) {
            long name = tokens.newWord();
            if (plane.floor.isHoldCalled(name) || plane.voyage.tankCalled(name) != NONE) {
                tokens.fail(WRONG_WORD);
            }
            return name;
        }

        private void readPallet(Cargo cargo) {
            if (cargo.size >= PALLETS) {
                tokens.fail(ONE_TOO_MANY);
            }
            long name = tokens.newWord();
            if (cargo.called(name) != NONE) {
                tokens.fail(WRONG_WORD);
            }
            int weight = tokens.number(1, PIECE_MOST);
            int stop = tokens.number(1, LAST_STOP);
            if (tokens.fault == 0) {
                cargo.add(name, weight, stop);
            }
        }

        private void readBulk(Cargo cargo) {
            if (bulkTold) {
                tokens.fail(WRONG_WORD);
            }
            bulkTold = true;
            cargo.bulk = tokens.number(0, BULK_MOST);
        }
    }

    /** HOLDS, SPOTS and JOINTS. A JOINT is kept by the later of its two SPOTS: the other one is just ahead of it. */
    private static final class Floor {
        int holdCount;
        final long[] holdName = new long[HOLDS];
        final int[] holdLimit = new int[HOLDS];
        final boolean[] holdFront = new boolean[HOLDS];
        int spotCount;
        final int[] spotHold = new int[SPOTS];
        final int[] spotArm = new int[SPOTS];
        final int[] spotLimit = new int[SPOTS];
        final int[] spotWay = new int[SPOTS];
        int jointCount;
        final int[] jointSpot = new int[SPOTS];
        final int[] jointLimit = new int[SPOTS];

        void clear() {
            holdCount = 0;
            spotCount = 0;
            jointCount = 0;
        }

        void copyFrom(Floor other) {
            holdCount = other.holdCount;
            System.arraycopy(other.holdName, 0, holdName, 0, HOLDS);
            System.arraycopy(other.holdLimit, 0, holdLimit, 0, HOLDS);
            System.arraycopy(other.holdFront, 0, holdFront, 0, HOLDS);
            spotCount = other.spotCount;
            System.arraycopy(other.spotHold, 0, spotHold, 0, SPOTS);
            System.arraycopy(other.spotArm, 0, spotArm, 0, SPOTS);
            System.arraycopy(other.spotLimit, 0, spotLimit, 0, SPOTS);
            System.arraycopy(other.spotWay, 0, spotWay, 0, SPOTS);
            jointCount = other.jointCount;
            System.arraycopy(other.jointSpot, 0, jointSpot, 0, SPOTS);
            System.arraycopy(other.jointLimit, 0, jointLimit, 0, SPOTS);
        }

        boolean hasHold(int h) {
            return h >= 0 && h < holdCount;
        }

        boolean hasSpot(int s) {
            return s >= 0 && s < spotCount;
        }

        boolean isHoldCalled(long name) {
            for (int h = 0; h < holdCount; h++) {
                if (holdName[h] == name) {
                    return true;
                }
            }
            return false;
        }

        void addHold(long name, int limit, boolean front) {
            if (holdCount >= HOLDS) {
                return;
            }
            holdName[holdCount] = name;
            holdLimit[holdCount] = limit;
            holdFront[holdCount] = front;
            holdCount++;
        }

        void addSpot(int arm, int limit) {
            int hold = holdCount - 1;
            if (spotCount >= SPOTS || !hasHold(hold)) {
                return;
            }
            int s = spotCount;
            spotHold[s] = hold;
            spotArm[s] = arm;
            spotLimit[s] = limit;
            spotWay[s] = 0;
            for (int earlier = 0; earlier < s; earlier++) {
                if (spotHold[earlier] == hold && holdFront[hold]) {
                    spotWay[s] |= 1 << earlier;
                } else if (spotHold[earlier] == hold) {
                    spotWay[earlier] |= 1 << s;
                }
            }
            spotCount++;
        }

        boolean takesJoint() {
            int later = spotCount - 1;
            if (later < 1 || spotHold[later] != holdCount - 1 || spotHold[later - 1] != holdCount - 1) {
                return false;
            }
            return jointCount == 0 || jointSpot[jointCount - 1] != later;
        }

        void addJoint(int limit) {
            if (jointCount < SPOTS) {
                jointSpot[jointCount] = spotCount - 1;
                jointLimit[jointCount] = limit;
                jointCount++;
            }
        }

        boolean isOnWay(int s, int of) {
            return hasSpot(s) && hasSpot(of) && (spotWay[of] >> s & 1) == 1;
        }
    }

    /** TANKS, burns and stops, and what empty PLANE and TANKS weigh at each STAGE. */
    private static final class Voyage {
        int tankCount;
        final long[] tankName = new long[TANKS];
        final int[] tankArm = new int[TANKS];
        final int[] tankFill = new int[TANKS];
        final int[] tankLeft = new int[TANKS];
        int stageCount;
        final int[] burnTank = new int[STAGES];
        final int[] burnAmount = new int[STAGES];
        int stopCount;
        final int[] weightAt = new int[STAGES + 1];
        final int[] momentAt = new int[STAGES + 1];
        final int[] stopsAt = new int[STAGES + 1];

        void clear() {
            tankCount = 0;
            stageCount = 0;
            stopCount = 0;
        }

        void copyFrom(Voyage other) {
            tankCount = other.tankCount;
            System.arraycopy(other.tankName, 0, tankName, 0, TANKS);
            System.arraycopy(other.tankArm, 0, tankArm, 0, TANKS);
            System.arraycopy(other.tankFill, 0, tankFill, 0, TANKS);
            System.arraycopy(other.tankLeft, 0, tankLeft, 0, TANKS);
            stageCount = other.stageCount;
            System.arraycopy(other.burnTank, 0, burnTank, 0, STAGES);
            System.arraycopy(other.burnAmount, 0, burnAmount, 0, STAGES);
            stopCount = other.stopCount;
            System.arraycopy(other.weightAt, 0, weightAt, 0, STAGES + 1);
            System.arraycopy(other.momentAt, 0, momentAt, 0, STAGES + 1);
            System.arraycopy(other.stopsAt, 0, stopsAt, 0, STAGES + 1);
        }

        boolean hasTank(int t) {
            return t >= 0 && t < tankCount;
        }

        int tankCalled(long name) {
            for (int t = 0; t < tankCount; t++) {
                if (tankName[t] == name) {
                    return t;
                }
            }
            return NONE;
        }

        int leftIn(int tank) {
            return hasTank(tank) ? tankLeft[tank] : 0;
        }

        void addTank(long name, int arm, int fill) {
            if (tankCount >= TANKS) {
                return;
            }
            tankName[tankCount] = name;
            tankArm[tankCount] = arm;
            tankFill[tankCount] = fill;
            tankLeft[tankCount] = fill;
            tankCount++;
        }

        void addBurn(int tank, int amount) {
            if (stageCount >= STAGES || !hasTank(tank)) {
                return;
            }
            tankLeft[tank] -= amount;
            burnTank[stageCount] = tank;
            burnAmount[stageCount] = amount;
            stageCount++;
        }

        void addStop() {
            if (stageCount >= STAGES) {
                return;
            }
            burnTank[stageCount] = NONE;
            burnAmount[stageCount] = 0;
            stageCount++;
            stopCount++;
        }

        /** Only once the whole text is read: a TANK told behind a burn counts from STAGE 0 on. */
        void reckon(int emptyWeight, int emptyArm) {
            weightAt[0] = emptyWeight;
            momentAt[0] = emptyWeight * emptyArm;
            stopsAt[0] = 0;
            for (int t = 0; t < tankCount; t++) {
                weightAt[0] += tankFill[t];
                momentAt[0] += tankFill[t] * tankArm[t];
            }
            for (int i = 0; i < stageCount; i++) {
                int tank = burnTank[i];
                int arm = hasTank(tank) ? tankArm[tank] : 0;
                weightAt[i + 1] = weightAt[i] - burnAmount[i];
                momentAt[i + 1] = momentAt[i] - burnAmount[i] * arm;
                stopsAt[i + 1] = stopsAt[i] + (tank == NONE ? 1 : 0);
            }
        }
    }

    /** Limit and arm of a BIN that is not there are 0, so that all may reckon with two. */
    private static final class Plane {
        int emptyWeight;
        int emptyArm;
        int lesserArm;
        int greaterArm;
        int binCount;
        final int[] binArm = new int[BINS];
        final int[] binLimit = new int[BINS];
        final Floor floor = new Floor();
        final Voyage voyage = new Voyage();

        Plane() {
            clear();
            voyage.reckon(emptyWeight, emptyArm);
        }

        void clear() {
            emptyWeight = 100;
            emptyArm = 50;
            lesserArm = 40;
            greaterArm = 60;
            binCount = 0;
            for (int b = 0; b < BINS; b++) {
                binArm[b] = 0;
                binLimit[b] = 0;
            }
            floor.clear();
            voyage.clear();
        }

        void copyFrom(Plane other) {
            emptyWeight = other.emptyWeight;
            emptyArm = other.emptyArm;
            lesserArm = other.lesserArm;
            greaterArm = other.greaterArm;
            binCount = other.binCount;
            System.arraycopy(other.binArm, 0, binArm, 0, BINS);
            System.arraycopy(other.binLimit, 0, binLimit, 0, BINS);
            floor.copyFrom(other.floor);
            voyage.copyFrom(other.voyage);
        }

        boolean hasBin(int b) {
            return b >= 0 && b < binCount;
        }

        void addBin(int arm, int limit) {
            if (binCount < BINS) {
                binArm[binCount] = arm;
                binLimit[binCount] = limit;
                binCount++;
            }
        }
    }

    /** The MANIFEST, the bulk that is told, and where all lies: just what undoing brings back. */
    private static final class Cargo {
        int size;
        final long[] name = new long[PALLETS];
        final int[] weight = new int[PALLETS];
        final int[] stop = new int[PALLETS];
        final int[] spot = new int[PALLETS];
        int bulk;
        final int[] inBin = new int[BINS];

        void clear() {
            size = 0;
            bulk = 0;
            clearPlaces();
        }

        void clearPlaces() {
            for (int k = 0; k < PALLETS; k++) {
                spot[k] = NONE;
            }
            for (int b = 0; b < BINS; b++) {
                inBin[b] = 0;
            }
        }

        void copyFrom(Cargo other) {
            size = other.size;
            System.arraycopy(other.name, 0, name, 0, PALLETS);
            System.arraycopy(other.weight, 0, weight, 0, PALLETS);
            System.arraycopy(other.stop, 0, stop, 0, PALLETS);
            System.arraycopy(other.spot, 0, spot, 0, PALLETS);
            bulk = other.bulk;
            System.arraycopy(other.inBin, 0, inBin, 0, BINS);
        }

        boolean has(int k) {
            return k >= 0 && k < size;
        }

        int called(long wanted) {
            for (int k = 0; k < size; k++) {
                if (wanted != 0 && name[k] == wanted) {
                    return k;
                }
            }
            return NONE;
        }

        int lyingOn(int s) {
            for (int k = 0; k < size; k++) {
                if (s != NONE && spot[k] == s) {
                    return k;
                }
            }
            return NONE;
        }

        int weightOn(int s) {
            int k = lyingOn(s);
            return has(k) ? weight[k] : 0;
        }

        int outCount() {
            int outs = 0;
            for (int k = 0; k < size; k++) {
                outs += spot[k] == NONE ? 1 : 0;
            }
            return outs;
        }

        int inBins() {
            int sum = 0;
            for (int b = 0; b < BINS; b++) {
                sum += inBin[b];
            }
            return sum;
        }

        void add(long newName, int newWeight, int newStop) {
            if (size < PALLETS) {
                write(size, newName, newWeight, newStop, NONE);
                size++;
            }
        }

        void moveLast(int k) {
            if (!has(k)) {
                return;
            }
            long oldName = name[k];
            int oldWeight = weight[k];
            int oldStop = stop[k];
            int oldSpot = spot[k];
            for (int i = k; i + 1 < size; i++) {
                write(i, name[i + 1], weight[i + 1], stop[i + 1], spot[i + 1]);
            }
            write(size - 1, oldName, oldWeight, oldStop, oldSpot);
        }

        private void write(int k, long newName, int newWeight, int newStop, int newSpot) {
            name[k] = newName;
            weight[k] = newWeight;
            stop[k] = newStop;
            spot[k] = newSpot;
        }
    }

    /** What is asked of a PLANE and of how a CARGO lies in it. */
    private static final class Rules {
        static int firstBroken(Plane plane, Cargo cargo) {
            for (int rule = OUT_RULE; rule <= SPAN_RULE; rule++) {
                if (brokenAt(rule, plane, cargo) != NONE) {
                    return rule;
                }
            }
            return 0;
        }

        static int brokenAt(int rule, Plane plane, Cargo cargo) {
            switch (rule) {
                case OUT_RULE: return outPallet(cargo);
                case SPOT_RULE: return heavySpot(plane.floor, cargo);
                case JOINT_RULE: return heavyJoint(plane.floor, cargo);
                case HOLD_RULE: return heavyHold(plane.floor, cargo);
                case BULK_RULE: return cargo.inBins() == cargo.bulk ? NONE : 0;
                case BLOCKED_RULE: return blockedSpot(plane.floor, cargo);
                case SPAN_RULE: return stageOutOfSpan(plane, cargo);
                default: return NONE;
            }
        }

        private static int outPallet(Cargo cargo) {
            for (int k = 0; k < cargo.size; k++) {
                if (cargo.spot[k] == NONE) {
                    return k;
                }
            }
            return NONE;
        }

        private static int heavySpot(Floor floor, Cargo cargo) {
            for (int s = 0; s < floor.spotCount; s++) {
                if (cargo.weightOn(s) > floor.spotLimit[s]) {
                    return s;
                }
            }
            return NONE;
        }

        private static int heavyJoint(Floor floor, Cargo cargo) {
            for (int j = 0; j < floor.jointCount; j++) {
                int later = floor.jointSpot[j];
                if (cargo.weightOn(later) + cargo.weightOn(later - 1) > floor.jointLimit[j]) {
                    return j;
                }
            }
            return NONE;
        }

        private static int heavyHold(Floor floor, Cargo cargo) {
            for (int h = 0; h < floor.holdCount; h++) {
                if (loadOfHold(floor, cargo, h) > floor.holdLimit[h]) {
                    return h;
                }
            }
            return NONE;
        }

        static int loadOfHold(Floor floor, Cargo cargo, int h) {
            int load = 0;
            for (int k = 0; k < cargo.size; k++) {
                int s = cargo.spot[k];
                if (floor.hasSpot(s) && floor.spotHold[s] == h) {
                    load += cargo.weight[k];
                }
            }
            return load;
        }

        private static int blockedSpot(Floor floor, Cargo cargo) {
            for (int s = 0; s < floor.spotCount; s++) {
                int k = cargo.lyingOn(s);
                if (k != NONE && blockersOf(floor, cargo, k) != 0) {
                    return s;
                }
            }
            return NONE;
        }

        static int blockersOf(Floor floor, Cargo cargo, int k) {
            int bits = 0;
            for (int other = 0; other < cargo.size && cargo.has(k); other++) {
                boolean later = cargo.stop[other] > cargo.stop[k];
                if (later && floor.isOnWay(cargo.spot[other], cargo.spot[k])) {
                    bits |= 1 << other;
                }
            }
            return bits;
        }

        private static int stageOutOfSpan(Plane plane, Cargo cargo) {
            for (int i = 0; i <= plane.voyage.stageCount; i++) {
                int weight = weightAt(plane, cargo, i);
                int moment = momentAt(plane, cargo, i);
                if (moment < weight * plane.lesserArm || moment > weight * plane.greaterArm) {
                    return i;
                }
            }
            return NONE;
        }

        /** The STAGE is one of the PLANE's, here and below. */
        static int weightAt(Plane plane, Cargo cargo, int i) {
            int weight = plane.voyage.weightAt[i] + cargo.inBins();
            for (int k = 0; k < cargo.size; k++) {
                if (cargo.spot[k] != NONE && cargo.stop[k] > plane.voyage.stopsAt[i]) {
                    weight += cargo.weight[k];
                }
            }
            return weight;
        }

        static int momentAt(Plane plane, Cargo cargo, int i) {
            int moment = plane.voyage.momentAt[i];
            for (int b = 0; b < plane.binCount; b++) {
                moment += cargo.inBin[b] * plane.binArm[b];
            }
            for (int k = 0; k < cargo.size; k++) {
                int s = cargo.spot[k];
                if (plane.floor.hasSpot(s) && cargo.stop[k] > plane.voyage.stopsAt[i]) {
                    moment += cargo.weight[k] * plane.floor.spotArm[s];
                }
            }
            return moment;
        }

        /**
         * One that stays where it is never leaves the way of others, so it must be handled too when one behind it
         * is; all that are handled go out once, the nearest to the DOOR first, and come in once, the farthest first.
         */
        static int timesThroughDoors(Floor floor, Cargo cargo, Table table, int row) {
            int handled = 0;
            for (int k = 0; k < cargo.size; k++) {
                if (cargo.spot[k] != table.spotIn(row, k)) {
                    handled |= 1 << k;
                }
            }
            for (int round = 0; round < cargo.size; round++) {
                handled |= standInWay(floor, cargo, table, row, handled);
            }
            int times = 0;
            for (int k = 0; k < cargo.size; k++) {
                if ((handled >> k & 1) == 1) {
                    times += cargo.spot[k] == NONE ? 1 : 2;
                }
            }
            return times;
        }

        private static int standInWay(Floor floor, Cargo cargo, Table table, int row, int handled) {
            int ways = 0;
            for (int k = 0; k < cargo.size; k++) {
                if ((handled >> k & 1) == 1) {
                    int then = table.spotIn(row, k);
                    ways |= floor.hasSpot(cargo.spot[k]) ? floor.spotWay[cargo.spot[k]] : 0;
                    ways |= floor.hasSpot(then) ? floor.spotWay[then] : 0;
                }
            }
            int standing = 0;
            for (int k = 0; k < cargo.size; k++) {
                if (floor.hasSpot(cargo.spot[k]) && (ways >> cargo.spot[k] & 1) == 1) {
                    standing |= 1 << k;
                }
            }
            return standing;
        }
    }

    /**
     * All GOOD LOADINGS in order. Those with the PALLETS on the same SPOTS are one row: the second BIN has the rest of
     * the bulk, so each STAGE asks something linear of the first BIN's amount, and what is GOOD there has no gap.
     */
    private static final class Table {
        static final int ROWS = 720;
        static final int SPOT_BITS = 3;
        static final int FAR = 1000000000;

        boolean made;
        int rows;
        final int[] places = new int[ROWS];
        final int[] leastAmount = new int[ROWS];
        final int[] loadingsUpTo = new int[ROWS];

        private Plane plane;
        private Cargo cargo;
        private int amountLeast;
        private int amountMost;
        private final int[] momentLeast = new int[STOPS + 1];
        private final int[] momentMost = new int[STOPS + 1];
        private final int[] spotOf = new int[PALLETS];
        private final int[] loadOnSpot = new int[SPOTS];
        private final int[] loadInHold = new int[HOLDS];
        private final int[] momentOfStop = new int[LAST_STOP + 1];

        void forget() {
            made = false;
        }

        void makeFor(Plane planeNow, Cargo cargoNow) {
            if (made) {
                return;
            }
            made = true;
            rows = 0;
            plane = planeNow;
            cargo = cargoNow;
            amountLeast = Math.max(0, cargo.bulk - plane.binLimit[1]);
            amountMost = Math.min(cargo.bulk, plane.binLimit[0]);
            if (amountLeast > amountMost || cargo.size > plane.floor.spotCount) {
                return;
            }
            reckonMoments();
            layFrom(this, 0);
        }

        int total() {
            return upTo(rows - 1);
        }

        int rowOf(int i) {
            for (int row = 0; row < rows && i >= 0; row++) {
                if (i < loadingsUpTo[row]) {
                    return row;
                }
            }
            return NONE;
        }

        int spotIn(int row, int k) {
            boolean there = row >= 0 && row < rows && k >= 0 && k < PALLETS;
            return there ? places[row] >> (SPOT_BITS * k) & 7 : NONE;
        }

        int amountIn(int i, int row, int b) {
            if (row < 0 || row >= rows) {
                return NONE;
            }
            int first = leastAmount[row] + i - upTo(row - 1);
            return b == 0 ? first : cargo.bulk - first;
        }

        boolean takesAmount(int row, int first) {
            if (row < 0 || row >= rows) {
                return false;
            }
            int amounts = upTo(row) - upTo(row - 1);
            return first >= leastAmount[row] && first < leastAmount[row] + amounts;
        }

        private int upTo(int row) {
            return row >= 0 && row < rows ? loadingsUpTo[row] : 0;
        }

        /** By how many stops are past: what the moment of the PALLETS, with the first BIN's part, must lie between. */
        private void reckonMoments() {
            for (int past = 0; past <= STOPS; past++) {
                momentLeast[past] = -FAR;
                momentMost[past] = FAR;
            }
            Voyage voyage = plane.voyage;
            for (int i = 0; i <= voyage.stageCount; i++) {
                int past = voyage.stopsAt[i];
                int weight = voyage.weightAt[i] + cargo.bulk + weightBehind(past);
                int moment = voyage.momentAt[i] + cargo.bulk * plane.binArm[1];
                momentLeast[past] = Math.max(momentLeast[past], weight * plane.lesserArm - moment);
                momentMost[past] = Math.min(momentMost[past], weight * plane.greaterArm - moment);
            }
        }

        private int weightBehind(int past) {
            int weight = 0;
            for (int k = 0; k < cargo.size; k++) {
                weight += cargo.stop[k] > past ? cargo.weight[k] : 0;
            }
            return weight;
        }

        private static void layFrom(Table table, int k) {
            if (k >= table.cargo.size || k >= PALLETS) {
                table.keepRow();
                return;
            }
            for (int s = 0; s < table.plane.floor.spotCount; s++) {
                if (table.mayLie(k, s)) {
                    table.lay(k, s, 1);
                    layFrom(table, k + 1);
                    table.lay(k, s, -1);
                }
            }
        }

        private boolean mayLie(int k, int s) {
            Floor floor = plane.floor;
            int weight = cargo.weight[k];
            int hold = floor.spotHold[s];
            if (loadOnSpot[s] != 0 || weight > floor.spotLimit[s]
                || loadInHold[hold] + weight > floor.holdLimit[hold]) {
                return false;
            }
            for (int j = 0; j < floor.jointCount; j++) {
                int later = floor.jointSpot[j];
                boolean touched = later >= 1 && (s == later || s == later - 1);
                if (touched && loadOnSpot[later] + loadOnSpot[later - 1] + weight > floor.jointLimit[j]) {
                    return false;
                }
            }
            for (int other = 0; other < k; other++) {
                if (cargo.stop[other] > cargo.stop[k] && floor.isOnWay(spotOf[other], s)
                    || cargo.stop[other] < cargo.stop[k] && floor.isOnWay(s, spotOf[other])) {
                    return false;
                }
            }
            return true;
        }

        private void lay(int k, int s, int sign) {
            int weight = sign * cargo.weight[k];
            spotOf[k] = s;
            loadOnSpot[s] += weight;
            loadInHold[plane.floor.spotHold[s]] += weight;
            momentOfStop[cargo.stop[k]] += weight * plane.floor.spotArm[s];
        }

        private void keepRow() {
            int least = -FAR;
            int most = FAR;
            int moment = 0;
            for (int past = LAST_STOP; past >= 0; past--) {
                if (past <= plane.voyage.stopCount) {
                    least = Math.max(least, momentLeast[past] - moment);
                    most = Math.min(most, momentMost[past] - moment);
                }
                moment += momentOfStop[past];
            }
            int slope = plane.binArm[0] - plane.binArm[1];
            int from = amountLeast;
            int to = amountMost;
            if (slope != 0) {
                from = Math.max(from, -Math.floorDiv(-(slope > 0 ? least : most), slope));
                to = Math.min(to, Math.floorDiv(slope > 0 ? most : least, slope));
            } else if (least > 0 || most < 0) {
                return;
            }
            if (from <= to && rows < ROWS) {
                places[rows] = packedPlaces();
                leastAmount[rows] = from;
                loadingsUpTo[rows] = upTo(rows - 1) + to - from + 1;
                rows++;
            }
        }

        private int packedPlaces() {
            int packed = 0;
            for (int k = 0; k < cargo.size; k++) {
                packed |= spotOf[k] << (SPOT_BITS * k);
            }
            return packed;
        }
    }

    /**
     * Seeks the MOVES. To get to a row of the table, each PALLET that lies elsewhere must move once, and for each ring
     * of PALLETS that wait for one another's SPOTS one of them must step aside first: no MOVE can save more than one.
     */
    private static final class Mender {
        static final int MOVES = 10;

        private final int[] toldMoves = new int[MOVES];
        private int toldCount;
        private final int[] moves = new int[MOVES];
        private final int[] spots = new int[PALLETS];
        private final int[] palletOn = new int[SPOTS];
        private final int[] nearRows = new int[Table.ROWS];
        private int nearCount;
        private int size;
        private int spotCount;
        private Table table;

        int seek(Plane plane, Cargo cargo, Table tableNow) {
            if (cargo.inBins() != cargo.bulk) {
                return NONE;
            }
            table = tableNow;
            size = cargo.size;
            spotCount = plane.floor.spotCount;
            for (int s = 0; s < SPOTS; s++) {
                palletOn[s] = cargo.lyingOn(s);
            }
            System.arraycopy(cargo.spot, 0, spots, 0, PALLETS);
            int away = findNearRows(cargo.inBin[0]);
            if (away > MOVES) {
                return NONE;
            }
            for (int i = 0; i < away; i++) {
                moves[i] = leastMove(away - i);
                if (moves[i] == NONE) {
                    return NONE;
                }
                doMove(moves[i] / 10, moves[i] % 10);
                keepNearRows(away - i - 1);
            }
            return away;
        }

        void tell(int found) {
            toldCount = Math.min(found, MOVES);
            for (int i = 0; i < toldCount; i++) {
                toldMoves[i] = moves[i];
            }
        }

        int toldMove(int i) {
            return i >= 0 && i < toldCount ? toldMoves[i] : NONE;
        }

        void putAllInto(Cargo cargo) {
            System.arraycopy(spots, 0, cargo.spot, 0, PALLETS);
        }

        private int findNearRows(int firstAmount) {
            int best = NONE;
            nearCount = 0;
            for (int row = 0; row < table.rows; row++) {
                int away = table.takesAmount(row, firstAmount) ? movesTo(row) : NONE;
                if (away == NONE || best != NONE && away > best) {
                    continue;
                }
                nearCount = away == best ? nearCount : 0;
                best = away;
                nearRows[nearCount] = row;
                nearCount++;
            }
            return best;
        }

        private void keepNearRows(int away) {
            int kept = 0;
            for (int i = 0; i < nearCount; i++) {
                if (movesTo(nearRows[i]) == away) {
                    nearRows[kept] = nearRows[i];
                    kept++;
                }
            }
            nearCount = kept;
        }

        private int movesTo(int row) {
            int away = 0;
            for (int k = 0; k < size; k++) {
                if (spots[k] != table.spotIn(row, k)) {
                    away += leastOfRing(row, k) == k ? 2 : 1;
                }
            }
            return away > 0 && emptySpot() == NONE ? NONE : away;
        }

        private int leastMove(int away) {
            int best = NONE;
            for (int i = 0; i < nearCount; i++) {
                int found = leastMoveTo(nearRows[i], away);
                if (found != NONE && (best == NONE || found < best)) {
                    best = found;
                }
            }
            return best;
        }

        private int leastMoveTo(int row, int away) {
            for (int k = 0; k < size; k++) {
                int s = table.spotIn(row, k);
                if (spots[k] == s) {
                    continue;
                }
                if (lyingOn(s) == NONE && !shutsLastGap(k, away)) {
                    return 10 * k + s;
                }
                if (leastOfRing(row, k) != NONE && emptySpot() != NONE) {
                    return 10 * k + emptySpot();
                }
            }
            return NONE;
        }

        /** One that was OUT and fills the last empty SPOT while a ring is left would leave it no SPOT to step aside. */
        private boolean shutsLastGap(int k, int away) {
            return spots[k] == NONE && away > 1 && emptySpots() == 1;
        }

        private int leastOfRing(int row, int k) {
            int least = k;
            int next = k;
            for (int i = 0; i < size; i++) {
                next = lyingOn(table.spotIn(row, next));
                if (next == NONE) {
                    return NONE;
                }
                least = Math.min(least, next);
                if (next == k) {
                    return least;
                }
            }
            return NONE;
        }

        private void doMove(int k, int s) {
            if (k < 0 || k >= PALLETS || s < 0 || s >= SPOTS) {
                return;
            }
            int left = spots[k];
            if (left >= 0 && left < SPOTS) {
                palletOn[left] = NONE;
            }
            spots[k] = s;
            palletOn[s] = k;
        }

        private int lyingOn(int s) {
            return s >= 0 && s < SPOTS ? palletOn[s] : NONE;
        }

        private int emptySpot() {
            for (int s = 0; s < spotCount; s++) {
                if (palletOn[s] == NONE) {
                    return s;
                }
            }
            return NONE;
        }

        private int emptySpots() {
            int empty = 0;
            for (int s = 0; s < spotCount; s++) {
                empty += palletOn[s] == NONE ? 1 : 0;
            }
            return empty;
        }
    }

    /** The latest CARGOES ahead of what can be undone, in a ring of rows that are used again. */
    private static final class History {
        private final Cargo[] kept = new Cargo[KEPT];
        private int next;
        int size;

        History() {
            for (int i = 0; i < KEPT; i++) {
                kept[i] = new Cargo();
            }
        }

        void keep(Cargo cargo) {
            Cargo place = kept[next];
            if (place != null) {
                place.copyFrom(cargo);
            }
            next = (next + 1) % KEPT;
            size = Math.min(size + 1, KEPT);
        }

        void bringBack(Cargo cargo) {
            next = (next + KEPT - 1) % KEPT;
            Cargo place = kept[next];
            if (place != null) {
                cargo.copyFrom(place);
            }
            size = Math.max(size - 1, 0);
        }
    }

    private static final class Image {
        boolean filled;
        final Plane plane = new Plane();
        final Cargo cargo = new Cargo();
    }
}
