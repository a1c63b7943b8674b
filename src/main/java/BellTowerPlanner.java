import java.util.NoSuchElementException;

/**
 * A planner for a bell tower: bells hang on beams that must stay balanced, they swing without
 * touching each other, they chime except in quiet hours, and their ropes are cut from a stock of
 * pieces.
 */
public final class BellTowerPlanner {
    public static final int NONE = -1;

    private static final int MAX_TEXT = 400;
    private static final int APPENDED_BYTES = 20;
    private static final int MAX_BEAMS = 4;
    private static final int MAX_BELLS = 8;
    private static final int MAX_QUIETS = 6;
    private static final int MAX_PIECES = 8;
    private static final int BELL_SETS = 256;
    private static final int REACH = 15;
    private static final int MAX_AMPLITUDE = 15;
    private static final int COLLISION_TICKS = 1000;
    private static final int TRIED_STARTS = 200;
    private static final int LAST_TICK = 9999;
    private static final int MINUTES = 1440;
    private static final int MAX_INT = 0x7fffffff;

    private final TowerText text;
    private final Tower tower;
    private final Tower candidate;
    private final BellState[] bells;
    private final Hanging hanging;
    private final Plans plans;
    private final Swings swings;
    private final Chimes chimes;
    private final Ropes ropes;
    private final History history;
    private boolean loaded;

    public BellTowerPlanner() {
        text = new TowerText();
        tower = new Tower();
        candidate = new Tower();
        bells = new BellState[MAX_BELLS];
        for (int bell = 0; bell < MAX_BELLS; bell++) {
            bells[bell] = new BellState();
        }
        hanging = new Hanging(tower, bells);
        plans = new Plans(tower, bells);
        swings = new Swings(tower, bells);
        chimes = new Chimes(tower, bells);
        ropes = new Ropes(tower, bells);
        history = new History();
        loaded = false;
    }

    // ---- the tower text

    public int append(int a, int b, int c, int d, int e) throws IllegalStateException {
        if (text.length > MAX_TEXT - APPENDED_BYTES) {
            throw new IllegalStateException("the text buffer is full");
        }
        text.addWord(a);
        text.addWord(b);
        text.addWord(c);
        text.addWord(d);
        text.addWord(e);
        return text.length;
    }

    public int truncate(int length) throws IllegalArgumentException {
        requireRange(length, 0, text.length);
        text.length = length;
        return length;
    }

    public int load() {
        int error = text.parse(candidate);
        text.length = 0;
        if (error != 0) {
            return -10 - error;
        }
        tower.copyFrom(candidate);
        for (int bell = 0; bell < MAX_BELLS; bell++) {
            bells[bell].reset();
        }
        chimes.markQuietMinutes();
        history.forgetAll();
        loaded = true;
        return tower.bells;
    }

    public int errorPosition() {
        return text.errorAt;
    }

    // ---- hanging

    public int hang(int bell, int beam, int position)
            throws IllegalStateException, IllegalArgumentException {
        requireTower();
        requireBell(bell);
        requireBeam(beam);
        requireRange(position, -REACH, REACH);
        if (bells[bell].hangs()) {
            return -2;
        }
        int error = hanging.errorOfPlace(bell, beam, position);
        if (error != 0) {
            return error;
        }
        rememberBell(bell);
        bells[bell].beam = beam;
        bells[bell].position = position;
        return hanging.countOn(beam);
    }

    public int takeDown(int bell) throws IllegalStateException, IllegalArgumentException {
        requireTower();
        requireBell(bell);
        if (!bells[bell].hangs()) {
            return -2;
        }
        int beam = bells[bell].beam;
        if (!tower.bears(beam, hanging.momentWithout(beam, bell))) {
            return -4;
        }
        rememberBell(bell);
        bells[bell].beam = NONE;
        bells[bell].amplitude = 0;
        return hanging.countOn(beam);
    }

    public int shift(int bell, int position)
            throws IllegalStateException, IllegalArgumentException {
        requireTower();
        requireBell(bell);
        requireRange(position, -REACH, REACH);
        if (!bells[bell].hangs()) {
            return -2;
        }
        int error = hanging.errorOfPlace(bell, bells[bell].beam, position);
        if (error != 0) {
            return error;
        }
        int previous = bells[bell].position;
        rememberBell(bell);
        bells[bell].position = position;
        return 100 + previous;
    }

    public int beamOf(int bell) throws IllegalStateException, IllegalArgumentException {
        requireTower();
        requireBell(bell);
        return bells[bell].hangs() ? bells[bell].beam : -2;
    }

    public int positionOf(int bell)
            throws IllegalStateException, IllegalArgumentException, NoSuchElementException {
        requireTower();
        requireBell(bell);
        requireHanging(bell);
        return bells[bell].position;
    }

    public int torque(int beam) throws IllegalStateException, IllegalArgumentException {
        requireTower();
        requireBeam(beam);
        return hanging.momentWithout(beam, NONE);
    }

    public int bellAt(int beam, int place)
            throws IllegalStateException, IllegalArgumentException {
        requireTower();
        requireBeam(beam);
        requireRange(place, 0, MAX_INT);
        return hanging.bellInPlace(beam, place);
    }

    public int freePositions(int bell, int beam)
            throws IllegalStateException, IllegalArgumentException {
        requireTower();
        requireBell(bell);
        requireBeam(beam);
        return bells[bell].hangs() ? -2 : hanging.countPlaces(bell, beam);
    }

    public int bestPosition(int bell, int beam)
            throws IllegalStateException, IllegalArgumentException {
        requireTower();
        requireBell(bell);
        requireBeam(beam);
        return bells[bell].hangs() ? -2 : hanging.calmestPlace(bell, beam);
    }

    public int mirroredTorque(int beam) throws IllegalStateException, IllegalArgumentException {
        requireTower();
        requireBeam(beam);
        return Math.abs(hanging.momentMirrored(beam, hanging.bestMirror(beam)));
    }

    public int mirroredBells(int beam) throws IllegalStateException, IllegalArgumentException {
        requireTower();
        requireBeam(beam);
        return hanging.bestMirror(beam);
    }

    // ---- plans

    public int setPlan(int bell, int beam, int position)
            throws IllegalStateException, IllegalArgumentException {
        requireTower();
        requireBell(bell);
        requireBeam(beam);
        requireRange(position, -REACH, REACH);
        rememberBell(bell);
        bells[bell].planBeam = beam;
        bells[bell].planPosition = position;
        return plans.countPlanned();
    }

    public int clearPlan(int bell) throws IllegalStateException, IllegalArgumentException {
        requireTower();
        requireBell(bell);
        if (!bells[bell].hasPlan()) {
            return -2;
        }
        rememberBell(bell);
        bells[bell].planBeam = NONE;
        return plans.countPlanned();
    }

    public int planConflicts() throws IllegalStateException {
        requireTower();
        return plans.countConflicts();
    }

    public int planUnbalanced() throws IllegalStateException {
        requireTower();
        return plans.unbalancedBeams();
    }

    public int stepsToPlan() throws IllegalStateException {
        requireTower();
        return plans.findWay() ? plans.countSteps() : -2;
    }

    public int planStep(int index) throws IllegalStateException, IllegalArgumentException {
        requireTower();
        requireRange(index, 0, MAX_INT);
        return plans.findWay() ? plans.stepOfWay(index) : -2;
    }

    // ---- swings

    public int startSwing(int bell, int tick, int amplitude)
            throws IllegalStateException, IllegalArgumentException {
        requireTower();
        requireBell(bell);
        requireRange(tick, 0, COLLISION_TICKS - 1);
        requireRange(amplitude, 1, MAX_AMPLITUDE);
        if (!bells[bell].hangs()) {
            return -2;
        }
        rememberBell(bell);
        bells[bell].swingStart = tick;
        bells[bell].amplitude = amplitude;
        return swings.countSwinging();
    }

    public int stopSwing(int bell) throws IllegalStateException, IllegalArgumentException {
        requireTower();
        requireBell(bell);
        if (!bells[bell].swings()) {
            return -2;
        }
        rememberBell(bell);
        bells[bell].amplitude = 0;
        return swings.countSwinging();
    }

    public int offset(int bell, int tick)
            throws IllegalStateException, IllegalArgumentException, NoSuchElementException {
        requireTower();
        requireBell(bell);
        requireRange(tick, 0, LAST_TICK);
        requireHanging(bell);
        return swings.offsetOf(bell, tick);
    }

    public int gap(int bell, int other, int tick)
            throws IllegalStateException, IllegalArgumentException, NoSuchElementException {
        requireTower();
        requireBell(bell);
        requireBell(other);
        requireRange(tick, 0, LAST_TICK);
        if (bell == other) {
            throw new IllegalArgumentException("a bell has no gap to itself");
        }
        if (!bells[bell].sharesBeamWith(bells[other])) {
            throw new NoSuchElementException("the bells do not hang on the same beam");
        }
        return swings.gapBetween(bell, other, tick);
    }

    public int firstCollision() throws IllegalStateException {
        requireTower();
        int tick = swings.tickOfCollision();
        return tick == NONE ? -2 : tick;
    }

    public int collidingBells() throws IllegalStateException {
        requireTower();
        int tick = swings.tickOfCollision();
        return tick == NONE ? -2 : swings.pairCollidingAt(tick);
    }

    public int safeStart(int bell, int amplitude)
            throws IllegalStateException, IllegalArgumentException {
        requireTower();
        requireBell(bell);
        requireRange(amplitude, 1, MAX_AMPLITUDE);
        return bells[bell].hangs() ? swings.leastSafeStart(bell, amplitude) : -2;
    }

    public int safeAmplitude(int bell) throws IllegalStateException, IllegalArgumentException {
        requireTower();
        requireBell(bell);
        return bells[bell].swings() ? swings.greatestSafeAmplitude(bell) : -2;
    }

    public int strikes(int bell, int from, int to)
            throws IllegalStateException, IllegalArgumentException {
        requireTower();
        requireBell(bell);
        requireRange(from, 0, LAST_TICK);
        requireRange(to, from, LAST_TICK);
        return bells[bell].swings() ? swings.countStrikes(bell, from, to) : -2;
    }

    public int strikeTogether(int bell, int other)
            throws IllegalStateException, IllegalArgumentException {
        requireTower();
        requireBell(bell);
        requireBell(other);
        if (!bells[bell].swings() || !bells[other].swings()) {
            return -2;
        }
        return swings.firstCommonStrike(bell, other);
    }

    // ---- chimes

    public int setChime(int bell, int first, int interval)
            throws IllegalStateException, IllegalArgumentException {
        requireTower();
        requireBell(bell);
        requireRange(first, 0, MINUTES - 1);
        requireRange(interval, 1, MINUTES);
        rememberBell(bell);
        bells[bell].chimeFirst = first;
        bells[bell].chimeInterval = interval;
        return 1 + (MINUTES - 1 - first) / interval;
    }

    public int clearChime(int bell) throws IllegalStateException, IllegalArgumentException {
        requireTower();
        requireBell(bell);
        if (!bells[bell].hasChime()) {
            return -2;
        }
        rememberBell(bell);
        bells[bell].chimeInterval = 0;
        return chimes.countChiming();
    }

    public boolean isQuiet(int minute) throws IllegalStateException, IllegalArgumentException {
        requireTower();
        requireRange(minute, 0, MINUTES - 1);
        return chimes.quiet[minute];
    }

    public int quietMinutes() throws IllegalStateException {
        requireTower();
        return chimes.countQuiet();
    }

    public int longestLoud() throws IllegalStateException {
        requireTower();
        return chimes.longestLoudRun();
    }

    public int soundsAt(int minute) throws IllegalStateException, IllegalArgumentException {
        requireTower();
        requireRange(minute, 0, MINUTES - 1);
        return chimes.soundingSet(minute);
    }

    public int soundsPerDay(int bell) throws IllegalStateException, IllegalArgumentException {
        requireTower();
        requireBell(bell);
        return bells[bell].hasChime() ? chimes.countCommonSounds(bell, bell) : -2;
    }

    public int nextSound(int minute) throws IllegalStateException, IllegalArgumentException {
        requireTower();
        requireRange(minute, 0, MINUTES - 1);
        return chimes.firstSoundFrom(minute);
    }

    public int busiestMinute() throws IllegalStateException {
        requireTower();
        return chimes.minuteOfMostSounds();
    }

    public int soundTogether(int bell, int other)
            throws IllegalStateException, IllegalArgumentException {
        requireTower();
        requireBell(bell);
        requireBell(other);
        if (!bells[bell].hasChime() || !bells[other].hasChime()) {
            return -2;
        }
        return chimes.countCommonSounds(bell, other);
    }

    public int leastDelay(int bell) throws IllegalStateException, IllegalArgumentException {
        requireTower();
        requireBell(bell);
        return bells[bell].hasChime() ? chimes.delayToLoudMinutes(bell) : -2;
    }

    // ---- ropes

    public int ropeLength(int bell) throws IllegalStateException, IllegalArgumentException {
        requireTower();
        requireBell(bell);
        return bells[bell].hangs() ? ropes.lengthFor(bell) : -2;
    }

    public int fewestPieces() throws IllegalStateException {
        requireTower();
        return ropes.findCutting() ? ropes.countUsedPieces() : -2;
    }

    public int pieceOf(int bell) throws IllegalStateException, IllegalArgumentException {
        requireTower();
        requireBell(bell);
        if (!bells[bell].hangs()) {
            return -2;
        }
        return ropes.findCutting() ? ropes.pieceFor(bell) : -3;
    }

    public int waste() throws IllegalStateException {
        requireTower();
        return ropes.findCutting() ? ropes.lengthLeft() : -2;
    }

    public int extraPiece() throws IllegalStateException {
        requireTower();
        return ropes.findCutting() ? 0 : ropes.leastMissingLength();
    }

    // ---- undo

    public int undo() throws IllegalStateException {
        requireTower();
        if (history.size == 0) {
            return -2;
        }
        history.stepBack(bells);
        return history.size;
    }

    /** Each action changes one bell alone, so the state of that bell is all that undo() needs. */
    private void rememberBell(int bell) {
        history.push(bell, bells[bell]);
    }

    private void requireTower() {
        if (!loaded) {
            throw new IllegalStateException("no tower text was loaded");
        }
    }

    private void requireBell(int bell) {
        requireRange(bell, 0, tower.bells - 1);
    }

    private void requireBeam(int beam) {
        requireRange(beam, 0, tower.beams - 1);
    }

    private static void requireRange(int value, int least, int greatest) {
        if (value < least || value > greatest) {
            throw new IllegalArgumentException("an argument is out of its range");
        }
    }

    private void requireHanging(int bell) {
        if (!bells[bell].hangs()) {
            throw new NoSuchElementException("the bell does not hang");
        }
    }

    /** What a tower text tells; nothing here changes until the next text is loaded. */
    private static final class Tower {
        static final int BEAM = 0;
        static final int BELL = 1;
        static final int QUIET = 2;
        static final int ROPE = 3;

        final int[] height = new int[MAX_BEAMS];
        final int[] limit = new int[MAX_BEAMS];
        final int[] weight = new int[MAX_BELLS];
        final int[] radius = new int[MAX_BELLS];
        final int[] period = new int[MAX_BELLS];
        final int[] quietFrom = new int[MAX_QUIETS];
        final int[] quietTo = new int[MAX_QUIETS];
        final int[] piece = new int[MAX_PIECES];
        int beams;
        int bells;
        int quiets;
        int pieces;

        void empty() {
            beams = 0;
            bells = 0;
            quiets = 0;
            pieces = 0;
        }

        boolean isFull(int statement) {
            switch (statement) {
                case BEAM:
                    return beams >= MAX_BEAMS;
                case BELL:
                    return bells >= MAX_BELLS;
                case QUIET:
                    return quiets >= MAX_QUIETS;
                default:
                    return pieces >= MAX_PIECES;
            }
        }

        void add(int statement, int[] numbers) {
            if (isFull(statement) || numbers.length < 3) {
                return;
            }
            switch (statement) {
                case BEAM:
                    height[beams] = numbers[0];
                    limit[beams] = numbers[1];
                    beams++;
                    break;
                case BELL:
                    weight[bells] = numbers[0];
                    radius[bells] = numbers[1];
                    period[bells] = numbers[2];
                    bells++;
                    break;
                case QUIET:
                    quietFrom[quiets] = numbers[0];
                    quietTo[quiets] = numbers[1];
                    quiets++;
                    break;
                default:
                    piece[pieces] = numbers[0];
                    pieces++;
                    break;
            }
        }

        void copyFrom(Tower other) {
            System.arraycopy(other.height, 0, height, 0, MAX_BEAMS);
            System.arraycopy(other.limit, 0, limit, 0, MAX_BEAMS);
            System.arraycopy(other.weight, 0, weight, 0, MAX_BELLS);
            System.arraycopy(other.radius, 0, radius, 0, MAX_BELLS);
            System.arraycopy(other.period, 0, period, 0, MAX_BELLS);
            System.arraycopy(other.quietFrom, 0, quietFrom, 0, MAX_QUIETS);
            System.arraycopy(other.quietTo, 0, quietTo, 0, MAX_QUIETS);
            System.arraycopy(other.piece, 0, piece, 0, MAX_PIECES);
            beams = other.beams;
            bells = other.bells;
            quiets = other.quiets;
            pieces = other.pieces;
        }

        boolean keepsClear(int bell, int other, int distance) {
            return Math.abs(distance) >= radius[bell] + radius[other];
        }

        boolean bears(int beam, int moment) {
            return Math.abs(moment) <= limit[beam];
        }
    }

    /** The text buffer, and the reading of it. */
    private static final class TowerText {
        private static final int WRONG_TOKEN = 1;
        private static final int OUT_OF_RANGE = 2;
        private static final int NOT_GREATER = 3;
        private static final int TOO_MANY = 4;

        private static final int END = 0;
        private static final int KEYWORD = 1;
        private static final int NUMBER = 2;
        private static final int SEMICOLON = 3;
        private static final int NO_TOKEN = 4;

        private static final int MAX_DIGITS = 5;

        /** The numbers of statement k have the ranges FIRST_RANGE[k] to FIRST_RANGE[k + 1] - 1. */
        private static final int[] FIRST_RANGE = {0, 2, 5, 7, 8};
        private static final int[] LEAST = {300, 0, 10, 2, 4, 0, 1, 100};
        private static final int[] GREATEST = {5000, 50000, 3000, 10, 40, 1439, 1440, 9999};

        final byte[] bytes = new byte[MAX_TEXT];
        final int[] numbers = new int[3];
        int length;
        int errorAt = NONE;
        int errorCode;
        int next;
        int start;
        int kind;
        int value;

        void addWord(int word) {
            for (int bits = 24; bits >= 0 && length < MAX_TEXT; bits -= 8) {
                bytes[length] = (byte) (word >> bits);
                length++;
            }
        }

        /** Returns the error code, 0 if the text is correct. */
        int parse(Tower tower) {
            tower.empty();
            errorCode = 0;
            errorAt = NONE;
            next = 0;
            readToken();
            int latest = Tower.BEAM;
            for (int i = 0; i <= MAX_TEXT && errorCode == 0 && kind != END; i++) {
                latest = parseStatement(tower, latest);
            }
            if (errorCode == 0 && tower.bells == 0) {
                fail(WRONG_TOKEN);
            }
            return errorCode;
        }

        private int parseStatement(Tower tower, int latest) {
            int statement = statementOfToken();
            if (statement < latest || !mayStand(tower, statement)) {
                fail(WRONG_TOKEN);
                return latest;
            }
            if (tower.isFull(statement)) {
                fail(TOO_MANY);
                return latest;
            }
            parseNumbers(statement);
            if (errorCode == 0) {
                readToken();
                if (kind != SEMICOLON) {
                    fail(WRONG_TOKEN);
                }
            }
            if (errorCode == 0) {
                tower.add(statement, numbers);
                readToken();
            }
            return statement;
        }

        private static boolean mayStand(Tower tower, int statement) {
            if (statement == Tower.BEAM) {
                return true;
            }
            return tower.beams > 0 && (statement == Tower.BELL || tower.bells > 0);
        }

        private void parseNumbers(int statement) {
            if (statement < 0 || statement > Tower.ROPE) {
                return;
            }
            int first = FIRST_RANGE[statement];
            int count = FIRST_RANGE[statement + 1] - first;
            for (int i = 0; i < count && i < numbers.length && errorCode == 0; i++) {
                readToken();
                numbers[i] = value;
                if (kind != NUMBER) {
                    fail(WRONG_TOKEN);
                } else if (value < LEAST[first + i] || value > GREATEST[first + i]) {
                    fail(OUT_OF_RANGE);
                } else if (statement == Tower.QUIET && i == 1 && value <= numbers[0]) {
                    fail(NOT_GREATER);
                }
            }
        }

        /** Every error stands at the first byte of the token that was read last. */
        private void fail(int code) {
            errorCode = code;
            errorAt = start;
        }

        private int statementOfToken() {
            if (kind != KEYWORD) {
                return NONE;
            }
            if (tokenIs("beam")) {
                return Tower.BEAM;
            }
            if (tokenIs("bell")) {
                return Tower.BELL;
            }
            if (tokenIs("quiet")) {
                return Tower.QUIET;
            }
            return tokenIs("rope") ? Tower.ROPE : NONE;
        }

        private boolean tokenIs(String word) {
            if (next - start != word.length()) {
                return false;
            }
            for (int i = 0; i < word.length(); i++) {
                if (byteAt(start + i) != word.charAt(i)) {
                    return false;
                }
            }
            return true;
        }

        private void readToken() {
            skipBlanks();
            start = next;
            value = 0;
            if (next >= length) {
                kind = END;
            } else if (isLetter(byteAt(next))) {
                kind = KEYWORD;
                skipLetters();
            } else if (isDigit(byteAt(next))) {
                readNumber();
            } else if (byteAt(next) == ';') {
                kind = SEMICOLON;
                next++;
            } else {
                kind = NO_TOKEN;
            }
        }

        private void skipBlanks() {
            while (next < length && (byteAt(next) == ' ' || byteAt(next) == '\n')) {
                next++;
            }
        }

        private void skipLetters() {
            while (next < length && isLetter(byteAt(next))) {
                next++;
            }
        }

        private void readNumber() {
            while (next < length && next - start < MAX_DIGITS && isDigit(byteAt(next))) {
                value = 10 * value + byteAt(next) - '0';
                next++;
            }
            kind = isDigit(byteAt(next)) ? NO_TOKEN : NUMBER;
        }

        private int byteAt(int index) {
            return index >= 0 && index < length && index < MAX_TEXT ? bytes[index] : NONE;
        }

        private static boolean isLetter(int sign) {
            return sign >= 'a' && sign <= 'z';
        }

        private static boolean isDigit(int sign) {
            return sign >= '0' && sign <= '9';
        }
    }

    /** What the actions have done with one bell. */
    private static final class BellState {
        int beam;
        int position;
        int planBeam;
        int planPosition;
        int swingStart;
        int amplitude;
        int chimeFirst;
        int chimeInterval;

        BellState() {
            beam = NONE;
            planBeam = NONE;
        }

        void reset() {
            beam = NONE;
            position = 0;
            planBeam = NONE;
            planPosition = 0;
            swingStart = 0;
            amplitude = 0;
            chimeFirst = 0;
            chimeInterval = 0;
        }

        void copyFrom(BellState other) {
            beam = other.beam;
            position = other.position;
            planBeam = other.planBeam;
            planPosition = other.planPosition;
            swingStart = other.swingStart;
            amplitude = other.amplitude;
            chimeFirst = other.chimeFirst;
            chimeInterval = other.chimeInterval;
        }

        boolean hangs() {
            return beam != NONE;
        }

        boolean hasPlan() {
            return planBeam != NONE;
        }

        boolean swings() {
            return amplitude > 0;
        }

        boolean hasChime() {
            return chimeInterval > 0;
        }

        boolean sharesBeamWith(BellState other) {
            return hangs() && beam == other.beam;
        }

        boolean plannedWhereItHangs() {
            return hasPlan() && planBeam == beam && planPosition == position;
        }

        boolean chimesAt(int minute) {
            return hasChime() && minute >= chimeFirst
                    && (minute - chimeFirst) % chimeInterval == 0;
        }
    }

    /** The bells before each of the latest actions, in a ring of slots. */
    private static final class History {
        private static final int SLOTS = 12;

        final int[] changedBell = new int[SLOTS];
        final BellState[] before = new BellState[SLOTS];
        int oldest;
        int size;

        History() {
            for (int slot = 0; slot < SLOTS; slot++) {
                before[slot] = new BellState();
            }
        }

        void forgetAll() {
            oldest = 0;
            size = 0;
        }

        void push(int bell, BellState state) {
            if (size == SLOTS) {
                oldest = (oldest + 1) % SLOTS;
                size--;
            }
            int slot = (oldest + size) % SLOTS;
            changedBell[slot] = bell;
            before[slot].copyFrom(state);
            size++;
        }

        void stepBack(BellState[] bells) {
            if (size == 0) {
                return;
            }
            size--;
            int slot = (oldest + size) % SLOTS;
            int bell = changedBell[slot];
            if (bell >= 0 && bell < bells.length) {
                bells[bell].copyFrom(before[slot]);
            }
        }
    }

    /** Places and torques of the bells that hang. */
    private static final class Hanging {
        final Tower tower;
        final BellState[] bells;

        Hanging(Tower tower, BellState[] bells) {
            this.tower = tower;
            this.bells = bells;
        }

        int countOn(int beam) {
            int count = 0;
            for (int bell = 0; bell < tower.bells; bell++) {
                if (bells[bell].beam == beam) {
                    count++;
                }
            }
            return count;
        }

        int momentWithout(int beam, int leftOut) {
            int moment = 0;
            for (int bell = 0; bell < tower.bells; bell++) {
                if (bell != leftOut && bells[bell].beam == beam) {
                    moment += tower.weight[bell] * bells[bell].position;
                }
            }
            return moment;
        }

        private int momentWith(int bell, int beam, int position) {
            return momentWithout(beam, bell) + tower.weight[bell] * position;
        }

        private boolean fits(int bell, int beam, int position) {
            for (int other = 0; other < tower.bells; other++) {
                if (other != bell && bells[other].beam == beam
                        && !tower.keepsClear(bell, other, position - bells[other].position)) {
                    return false;
                }
            }
            return true;
        }

        /** Returns -3 or -4 as hang() and shift() do, 0 if the bell could hang there. */
        int errorOfPlace(int bell, int beam, int position) {
            if (!fits(bell, beam, position)) {
                return -3;
            }
            return tower.bears(beam, momentWith(bell, beam, position)) ? 0 : -4;
        }

        int countPlaces(int bell, int beam) {
            int count = 0;
            for (int position = -REACH; position <= REACH; position++) {
                if (errorOfPlace(bell, beam, position) == 0) {
                    count++;
                }
            }
            return count;
        }

        int calmestPlace(int bell, int beam) {
            int best = -3;
            int least = MAX_INT;
            for (int position = -REACH; position <= REACH; position++) {
                int moment = Math.abs(momentWith(bell, beam, position));
                if (moment < least && errorOfPlace(bell, beam, position) == 0) {
                    least = moment;
                    best = 100 + position;
                }
            }
            return best;
        }

        int bellInPlace(int beam, int place) {
            for (int bell = 0; bell < tower.bells; bell++) {
                if (bells[bell].beam == beam && countBefore(bell) == place) {
                    return bell;
                }
            }
            return -2;
        }

        private int countBefore(int bell) {
            int count = 0;
            for (int other = 0; other < tower.bells; other++) {
                if (bells[other].sharesBeamWith(bells[bell])
                        && bells[other].position < bells[bell].position) {
                    count++;
                }
            }
            return count;
        }

        int bestMirror(int beam) {
            int onBeam = bellsOn(beam);
            int best = 0;
            int least = Math.abs(momentMirrored(beam, 0));
            for (int set = 1; set <= onBeam; set++) {
                if ((set & ~onBeam) != 0) {
                    continue;
                }
                int moment = Math.abs(momentMirrored(beam, set));
                boolean better = moment < least
                        || moment == least && Integer.bitCount(set) < Integer.bitCount(best);
                if (better && clearMirrored(beam, set)) {
                    least = moment;
                    best = set;
                }
            }
            return best;
        }

        int momentMirrored(int beam, int set) {
            int moment = 0;
            for (int bell = 0; bell < tower.bells; bell++) {
                if (bells[bell].beam == beam) {
                    moment += tower.weight[bell] * positionMirrored(bell, set);
                }
            }
            return moment;
        }

        private int bellsOn(int beam) {
            int set = 0;
            for (int bell = 0; bell < tower.bells; bell++) {
                if (bells[bell].beam == beam) {
                    set |= 1 << bell;
                }
            }
            return set;
        }

        private boolean clearMirrored(int beam, int set) {
            for (int bell = 0; bell < tower.bells; bell++) {
                for (int other = 0; other < bell; other++) {
                    int distance = positionMirrored(bell, set) - positionMirrored(other, set);
                    if (bells[bell].beam == beam && bells[other].beam == beam
                            && !tower.keepsClear(bell, other, distance)) {
                        return false;
                    }
                }
            }
            return true;
        }

        private int positionMirrored(int bell, int set) {
            boolean mirrored = (set >> bell & 1) != 0;
            return mirrored ? -bells[bell].position : bells[bell].position;
        }
    }

    /**
     * The way from the present arrangement to the goal of the plans. An arrangement is a number
     * in base 3, with a digit for each bell: it does not hang, it hangs at its present place, or
     * it hangs at its planned place.
     */
    private static final class Plans {
        private static final int[] POWER = {1, 3, 9, 27, 81, 243, 729, 2187, 6561};
        private static final int ARRANGEMENTS = 6561;
        private static final int PRESENT = 1;
        private static final int PLANNED = 2;

        private static final int UNSEEN = -1;
        private static final int FORBIDDEN = -2;
        private static final int ORIGIN = -3;
        private static final int CODES = 32;

        final Tower tower;
        final BellState[] bells;
        final int[] reachedBy = new int[ARRANGEMENTS];
        final int[] queue = new int[ARRANGEMENTS];
        final int[] beamThere = new int[MAX_BELLS];
        final int[] positionThere = new int[MAX_BELLS];
        final int[] momentThere = new int[MAX_BEAMS];
        int queued;
        int goal;

        Plans(Tower tower, BellState[] bells) {
            this.tower = tower;
            this.bells = bells;
        }

        int countPlanned() {
            int count = 0;
            for (int bell = 0; bell < tower.bells; bell++) {
                if (bells[bell].hasPlan()) {
                    count++;
                }
            }
            return count;
        }

        int countConflicts() {
            arrange(goalArrangement());
            return conflictsThere();
        }

        int unbalancedBeams() {
            arrange(goalArrangement());
            return unbalancedThere();
        }

        /**
         * Searches in rounds of one step more each, and in each round by ascending sequence of
         * codes: so the first way that reaches an arrangement is the best one.
         */
        boolean findWay() {
            int origin = presentArrangement();
            goal = goalArrangement();
            for (int i = 0; i < ARRANGEMENTS; i++) {
                reachedBy[i] = UNSEEN;
            }
            reachedBy[origin] = ORIGIN;
            queue[0] = origin;
            queued = 1;
            if (!allowed(goal)) {
                return false;
            }
            for (int i = 0; i < queued && i < ARRANGEMENTS && !isReached(goal); i++) {
                stepFrom(queue[i]);
            }
            return isReached(goal);
        }

        int countSteps() {
            int steps = 0;
            int arrangement = goal;
            while (steps < ARRANGEMENTS && reachedBy[arrangement] >= 0) {
                arrangement = reachedBy[arrangement] / CODES;
                steps++;
            }
            return steps;
        }

        int stepOfWay(int index) {
            int later = countSteps() - 1 - index;
            if (later < 0) {
                return -3;
            }
            int arrangement = goal;
            for (int i = 0; i < later && reachedBy[arrangement] >= 0; i++) {
                arrangement = reachedBy[arrangement] / CODES;
            }
            return reachedBy[arrangement] % CODES;
        }

        private int presentArrangement() {
            int arrangement = 0;
            for (int bell = 0; bell < tower.bells; bell++) {
                if (bells[bell].hangs()) {
                    arrangement += PRESENT * POWER[bell];
                }
            }
            return arrangement;
        }

        /**
         * For a bell that is planned where it hangs, the planned place is left out: hanging it at
         * its present place does the same with a lesser code.
         */
        private int goalArrangement() {
            int arrangement = 0;
            for (int bell = 0; bell < tower.bells; bell++) {
                if (bells[bell].hasPlan() && !bells[bell].plannedWhereItHangs()) {
                    arrangement += PLANNED * POWER[bell];
                } else if (bells[bell].hangs()) {
                    arrangement += PRESENT * POWER[bell];
                }
            }
            return arrangement;
        }

        private boolean isReached(int arrangement) {
            return reachedBy[arrangement] >= 0 || reachedBy[arrangement] == ORIGIN;
        }

        private void stepFrom(int arrangement) {
            for (int bell = 0; bell < tower.bells; bell++) {
                int down = arrangement - stateIn(arrangement, bell) * POWER[bell];
                if (down != arrangement) {
                    reach(down, arrangement, 3 * bell);
                    continue;
                }
                if (bells[bell].hangs()) {
                    reach(down + PRESENT * POWER[bell], arrangement, 3 * bell + 1);
                }
                if (bells[bell].hasPlan() && !bells[bell].plannedWhereItHangs()) {
                    reach(down + PLANNED * POWER[bell], arrangement, 3 * bell + 2);
                }
            }
        }

        private void reach(int arrangement, int from, int code) {
            if (arrangement < 0 || arrangement >= ARRANGEMENTS
                    || reachedBy[arrangement] != UNSEEN) {
                return;
            }
            if (!allowed(arrangement)) {
                reachedBy[arrangement] = FORBIDDEN;
            } else if (queued < ARRANGEMENTS) {
                reachedBy[arrangement] = from * CODES + code;
                queue[queued] = arrangement;
                queued++;
            }
        }

        private boolean allowed(int arrangement) {
            arrange(arrangement);
            return unbalancedThere() == 0 && conflictsThere() == 0;
        }

        /** Writes the arrangement out, as reading its digits anew for each pair would be slow. */
        private void arrange(int arrangement) {
            for (int beam = 0; beam < MAX_BEAMS; beam++) {
                momentThere[beam] = 0;
            }
            for (int bell = 0; bell < tower.bells; bell++) {
                int state = stateIn(arrangement, bell);
                int beam = beamIn(state, bells[bell]);
                int position = state == PLANNED
                        ? bells[bell].planPosition : bells[bell].position;
                beamThere[bell] = beam;
                positionThere[bell] = position;
                if (beam >= 0 && beam < MAX_BEAMS) {
                    momentThere[beam] += tower.weight[bell] * position;
                }
            }
        }

        private int unbalancedThere() {
            int set = 0;
            for (int beam = 0; beam < tower.beams; beam++) {
                if (!tower.bears(beam, momentThere[beam])) {
                    set |= 1 << beam;
                }
            }
            return set;
        }

        private int conflictsThere() {
            int count = 0;
            for (int bell = 0; bell < tower.bells; bell++) {
                for (int other = 0; other < bell; other++) {
                    int distance = positionThere[bell] - positionThere[other];
                    if (beamThere[bell] != NONE && beamThere[bell] == beamThere[other]
                            && !tower.keepsClear(bell, other, distance)) {
                        count++;
                    }
                }
            }
            return count;
        }

        private static int stateIn(int arrangement, int bell) {
            return arrangement / POWER[bell] % 3;
        }

        private static int beamIn(int state, BellState bell) {
            switch (state) {
                case PRESENT:
                    return bell.beam;
                case PLANNED:
                    return bell.planBeam;
                default:
                    return NONE;
            }
        }
    }

    /** Offsets, collisions and strikes of the bells that swing. */
    private static final class Swings {
        private static final int FAR = 1000;

        final Tower tower;
        final BellState[] bells;
        final int[] leastOffset = new int[COLLISION_TICKS];
        final int[] greatestOffset = new int[COLLISION_TICKS];
        final int[] spot = new int[MAX_BELLS];

        Swings(Tower tower, BellState[] bells) {
            this.tower = tower;
            this.bells = bells;
        }

        int countSwinging() {
            int count = 0;
            for (int bell = 0; bell < tower.bells; bell++) {
                if (bells[bell].swings()) {
                    count++;
                }
            }
            return count;
        }

        int offsetOf(int bell, int tick) {
            BellState state = bells[bell];
            return offsetOfSwing(tower.period[bell], tick - state.swingStart, state.amplitude);
        }

        private static int offsetOfSwing(int period, int passed, int amplitude) {
            if (passed < 0 || period <= 0) {
                return 0;
            }
            int n = 4 * (passed % period);
            if (n <= period) {
                return amplitude * n / period;
            }
            if (n <= 3 * period) {
                return amplitude * (2 * period - n) / period;
            }
            return amplitude * (n - 4 * period) / period;
        }

        int gapBetween(int bell, int other, int tick) {
            return gapOfSpots(bell, other, spotOf(bell, tick) - spotOf(other, tick));
        }

        private int gapOfSpots(int bell, int other, int distance) {
            boolean bellIsAbove = bells[bell].position > bells[other].position;
            int apart = bellIsAbove ? distance : -distance;
            return apart - tower.radius[bell] - tower.radius[other];
        }

        private int spotOf(int bell, int tick) {
            return bells[bell].position + offsetOf(bell, tick);
        }

        int tickOfCollision() {
            for (int tick = 0; tick < COLLISION_TICKS; tick++) {
                if (pairCollidingAt(tick) != NONE) {
                    return tick;
                }
            }
            return NONE;
        }

        int pairCollidingAt(int tick) {
            for (int bell = 0; bell < tower.bells; bell++) {
                spot[bell] = spotOf(bell, tick);
            }
            for (int lower = 0; lower < tower.bells; lower++) {
                for (int higher = lower + 1; higher < tower.bells; higher++) {
                    if (bells[lower].sharesBeamWith(bells[higher])
                            && gapOfSpots(lower, higher, spot[lower] - spot[higher]) < 0) {
                        return 8 * lower + higher;
                    }
                }
            }
            return NONE;
        }

        int leastSafeStart(int bell, int amplitude) {
            findRoom(bell);
            for (int start = 0; start < TRIED_STARTS; start++) {
                if (staysInRoom(bell, start, amplitude)) {
                    return start;
                }
            }
            return -3;
        }

        int greatestSafeAmplitude(int bell) {
            findRoom(bell);
            for (int amplitude = MAX_AMPLITUDE; amplitude >= 0; amplitude--) {
                if (staysInRoom(bell, bells[bell].swingStart, amplitude)) {
                    return amplitude;
                }
            }
            return -3;
        }

        /** Many swings of the bell are tried against the same room, so it is found once. */
        private void findRoom(int bell) {
            for (int tick = 0; tick < COLLISION_TICKS; tick++) {
                leastOffset[tick] = -FAR;
                greatestOffset[tick] = FAR;
            }
            for (int other = 0; other < tower.bells; other++) {
                if (other != bell && bells[other].sharesBeamWith(bells[bell])) {
                    narrowRoom(bell, other);
                }
            }
        }

        private void narrowRoom(int bell, int other) {
            int position = bells[bell].position;
            int radii = tower.radius[bell] + tower.radius[other];
            boolean otherIsBelow = bells[other].position < position;
            for (int tick = 0; tick < COLLISION_TICKS; tick++) {
                int distance = spotOf(other, tick) - position;
                if (otherIsBelow) {
                    leastOffset[tick] = Math.max(leastOffset[tick], distance + radii);
                } else {
                    greatestOffset[tick] = Math.min(greatestOffset[tick], distance - radii);
                }
            }
        }

        private boolean staysInRoom(int bell, int start, int amplitude) {
            int period = tower.period[bell];
            for (int tick = 0; tick < COLLISION_TICKS; tick++) {
                int offset = offsetOfSwing(period, tick - start, amplitude);
                if (offset < leastOffset[tick] || offset > greatestOffset[tick]) {
                    return false;
                }
            }
            return true;
        }

        int countStrikes(int bell, int from, int to) {
            int count = 0;
            for (int tick = from; tick <= to && tick <= LAST_TICK; tick++) {
                if (strikesAt(bell, tick)) {
                    count++;
                }
            }
            return count;
        }

        int firstCommonStrike(int bell, int other) {
            for (int tick = 0; tick <= LAST_TICK; tick++) {
                if (strikesAt(bell, tick) && strikesAt(other, tick)) {
                    return tick;
                }
            }
            return -3;
        }

        private boolean strikesAt(int bell, int tick) {
            int period = tower.period[bell];
            int passed = tick - bells[bell].swingStart;
            if (passed < 0 || period <= 0) {
                return false;
            }
            int q = passed % period;
            return q == period / 4 || q == 3 * period / 4;
        }
    }

    /** The chimes in the course of a day. */
    private static final class Chimes {
        final Tower tower;
        final BellState[] bells;
        final boolean[] quiet = new boolean[MINUTES];

        Chimes(Tower tower, BellState[] bells) {
            this.tower = tower;
            this.bells = bells;
        }

        void markQuietMinutes() {
            for (int minute = 0; minute < MINUTES; minute++) {
                quiet[minute] = false;
            }
            for (int i = 0; i < tower.quiets; i++) {
                int end = Math.min(tower.quietTo[i], MINUTES);
                for (int minute = Math.max(tower.quietFrom[i], 0); minute < end; minute++) {
                    quiet[minute] = true;
                }
            }
        }

        int countChiming() {
            int count = 0;
            for (int bell = 0; bell < tower.bells; bell++) {
                if (bells[bell].hasChime()) {
                    count++;
                }
            }
            return count;
        }

        int countQuiet() {
            int count = 0;
            for (int minute = 0; minute < MINUTES; minute++) {
                if (quiet[minute]) {
                    count++;
                }
            }
            return count;
        }

        int longestLoudRun() {
            int longest = 0;
            int run = 0;
            for (int minute = 0; minute < MINUTES; minute++) {
                run = quiet[minute] ? 0 : run + 1;
                longest = Math.max(longest, run);
            }
            return longest;
        }

        int soundingSet(int minute) {
            int set = 0;
            for (int bell = 0; bell < tower.bells; bell++) {
                if (isHeard(bell, minute)) {
                    set |= 1 << bell;
                }
            }
            return set;
        }

        private boolean isHeard(int bell, int minute) {
            return bells[bell].hangs() && bells[bell].chimesAt(minute) && !quiet[minute];
        }

        int firstSoundFrom(int from) {
            for (int minute = from; minute < MINUTES; minute++) {
                if (soundingSet(minute) != 0) {
                    return minute;
                }
            }
            return -2;
        }

        int minuteOfMostSounds() {
            int busiest = -2;
            int most = 0;
            for (int minute = 0; minute < MINUTES; minute++) {
                int count = Integer.bitCount(soundingSet(minute));
                if (count > most) {
                    most = count;
                    busiest = minute;
                }
            }
            return busiest;
        }

        int countCommonSounds(int bell, int other) {
            int count = 0;
            for (int minute = 0; minute < MINUTES; minute++) {
                if (isHeard(bell, minute) && isHeard(other, minute)) {
                    count++;
                }
            }
            return count;
        }

        int delayToLoudMinutes(int bell) {
            int first = bells[bell].chimeFirst;
            int interval = bells[bell].chimeInterval;
            int least = MINUTES;
            for (int start = first; start < first + interval && start < MINUTES; start++) {
                least = Math.min(least, firstLoudChime(start, interval));
            }
            return least < MINUTES ? least - first : -3;
        }

        /**
         * Of the minutes start, start + interval, .. the first one from which on none is quiet.
         * Chimes that are put off by a whole interval ring at minutes that were chimes before, so
         * going on from the latest quiet minute of them is enough.
         */
        private int firstLoudChime(int start, int interval) {
            int first = start;
            for (int minute = start; minute < MINUTES && interval > 0; minute += interval) {
                if (quiet[minute]) {
                    first = minute + interval;
                }
            }
            return first;
        }
    }

    /** The cutting of the ropes from the pieces. */
    private static final class Ropes {
        private static final int DIGIT_BITS = 3;
        private static final int PER_PIECE = 1 << DIGIT_BITS * MAX_BELLS;
        private static final int NO_CUTTING = MAX_INT;

        final Tower tower;
        final BellState[] bells;
        final int[] totalLength = new int[BELL_SETS];
        final int[] digitOnes = new int[BELL_SETS];
        final int[] leastCost = new int[BELL_SETS];
        int hangingSet;

        Ropes(Tower tower, BellState[] bells) {
            this.tower = tower;
            this.bells = bells;
        }

        int lengthFor(int bell) {
            int beam = bells[bell].beam;
            if (beam < 0 || beam >= tower.beams) {
                return 0;
            }
            return tower.height[beam] + 10 * Math.abs(bells[bell].position) + 50;
        }

        /**
         * The cost of a cutting is PER_PIECE for each piece used, plus its sequence of piece
         * numbers as an octal number with a digit for each bell. So the cutting of least cost is
         * the best one, and costs of separate pieces may be added.
         */
        boolean findCutting() {
            measureSets();
            for (int set = 0; set < BELL_SETS; set++) {
                leastCost[set] = set == 0 ? 0 : NO_CUTTING;
            }
            for (int piece = 0; piece < tower.pieces; piece++) {
                offerPiece(piece);
            }
            return leastCost[hangingSet] != NO_CUTTING;
        }

        private void measureSets() {
            hangingSet = 0;
            totalLength[0] = 0;
            digitOnes[0] = 0;
            for (int bell = 0; bell < tower.bells; bell++) {
                int own = 1 << bell;
                int length = bells[bell].hangs() ? lengthFor(bell) : 0;
                int digitOne = 1 << digitPlace(bell);
                hangingSet |= bells[bell].hangs() ? own : 0;
                for (int set = own; set < 2 * own && set < BELL_SETS; set++) {
                    totalLength[set] = totalLength[set - own] + length;
                    digitOnes[set] = digitOnes[set - own] + digitOne;
                }
            }
        }

        private static int digitPlace(int bell) {
            return DIGIT_BITS * (MAX_BELLS - 1 - bell);
        }

        /** Goes from greater sets to lesser ones: so the piece is not used twice for one set. */
        private void offerPiece(int piece) {
            for (int set = hangingSet; set > 0; set = (set - 1) & hangingSet) {
                for (int cut = set; cut > 0; cut = (cut - 1) & set) {
                    int rest = leastCost[set & ~cut];
                    if (totalLength[cut] <= tower.piece[piece] && rest != NO_CUTTING) {
                        int cost = rest + PER_PIECE + piece * digitOnes[cut];
                        leastCost[set] = Math.min(leastCost[set], cost);
                    }
                }
            }
        }

        int countUsedPieces() {
            return leastCost[hangingSet] / PER_PIECE;
        }

        int pieceFor(int bell) {
            return leastCost[hangingSet] >> digitPlace(bell) & MAX_PIECES - 1;
        }

        int lengthLeft() {
            int used = 0;
            for (int bell = 0; bell < tower.bells; bell++) {
                if (bells[bell].hangs()) {
                    used |= 1 << pieceFor(bell);
                }
            }
            int left = -totalLength[hangingSet];
            for (int piece = 0; piece < tower.pieces; piece++) {
                left += (used >> piece & 1) * tower.piece[piece];
            }
            return left;
        }

        /** The additional piece takes the ropes that the others leave, whatever its length. */
        int leastMissingLength() {
            int least = totalLength[hangingSet];
            for (int cut = hangingSet; cut > 0; cut = (cut - 1) & hangingSet) {
                if (leastCost[hangingSet & ~cut] != NO_CUTTING) {
                    least = Math.min(least, totalLength[cut]);
                }
            }
            return least;
        }
    }
}
