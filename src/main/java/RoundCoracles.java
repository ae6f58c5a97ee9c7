import java.util.Arrays;
import java.util.NoSuchElementException;

/**
 * A gorge of reaches, the judges who drift down it in round boats, and what can be asked of them.
 * The promises that the methods keep are numbered in the project's document.
 */
public final class RoundCoracles {
    public static final int NONE = -1;

    private static final int LANDED = -2;
    private static final int MOST_BYTES = 700;
    private static final int MOST_SIDES = 8;
    private static final int MOST_REACHES = 9;
    private static final int MOST_JUDGES = 8;
    private static final int MOST_ACTS = 40;
    private static final int MOST_SIGHTINGS = 8;
    private static final int MOST_STEPS_OF_AN_ACT = 20;
    private static final int MOST_STEPS_OF_A_SIGHTING = 20;
    private static final int LAST_STEP = 999;
    private static final int MOST_FLOW = 3;
    private static final int MOST_SPIN = 7;
    private static final int MOST_LEAN = 9;
    private static final int MOST_TURN = 30;
    private static final int HORIZON = 60;
    private static final int WATCH_STEPS = 6;
    private static final int GAME_STEPS = 5;
    private static final int MOST_FLOOD_STEPS = 5;
    private static final int REFUSED_TEXTS = 0;
    private static final int REFUSED_ACTS = 1;
    private static final int REFUSED_SIGHTINGS = 2;

    private final byte[] tape = new byte[MOST_BYTES];
    private int tapeLength = 0;
    private int faultPlace = NONE;
    private final Reader reader = new Reader();
    private Gorge told = new Gorge();
    private final Book book = new Book();
    private final Book imageBook = new Book();
    private boolean imageKept = false;
    private final Waters trial = new Waters();
    private final Panel bench = new Panel();
    private final int[] places = new int[MOST_JUDGES];
    private final int[] gains = new int[4];
    private final int[] otherGains = new int[4];

    public RoundCoracles() {
        book.begin(told);
    }

    public int feed(int a, int b, int c, int d, int e) {
        if (tapeLength + 20 > MOST_BYTES) {
            return NONE;
        }
        putFour(a);
        putFour(b);
        putFour(c);
        putFour(d);
        putFour(e);
        return tapeLength;
    }

    private void putFour(int four) {
        for (int shift = 24; shift >= 0 && tapeLength < MOST_BYTES; shift -= 8) {
            tape[tapeLength] = (byte) (four >> shift);
            tapeLength++;
        }
    }

    public int gorge(int n) throws IllegalArgumentException {
        if (n < 0 || n > tapeLength) {
            throw new IllegalArgumentException("the tape has not so many bytes");
        }
        tapeLength = 0;
        if (!reader.read(tape, n)) {
            faultPlace = reader.place;
            book.refused[REFUSED_TEXTS]++;
            return reader.fault;
        }
        told = reader.exchange(told);
        faultPlace = NONE;
        imageKept = false;
        book.begin(told);
        return 0;
    }

    public int fault() {
        return faultPlace;
    }

    public int count(int what) throws NoSuchElementException {
        switch (what) {
            case 0: return told.sides;
            case 1: return told.reaches;
            case 2: return told.judges;
            case 3: return book.waters.step;
            case 4: return book.waters.fairOnes(told);
            case 5: return book.waters.landedOnes(told);
            case 6: return book.waters.afloatOnes(told);
            case 7: return book.waters.pools(told);
            case 8: return fewestWithAll();
            case 9: return book.acts;
            case 10: return book.sightings;
            case 11: return tapeLength;
            case 12: return book.refused[REFUSED_TEXTS];
            case 13: return book.refused[REFUSED_ACTS];
            case 14: return book.refused[REFUSED_SIGHTINGS];
            default: throw new NoSuchElementException("no such what");
        }
    }

    private int fewestWithAll() {
        int best = NONE;
        for (int bits = 1; bits < 1 << told.judges; bits++) {
            int all = 0;
            for (int j = 0; j < told.judges; j++) {
                if ((bits >> j & 1) == 1) {
                    all |= book.waters.seen[j];
                }
            }
            if (all == told.allSides()
                    && (best == NONE || Integer.bitCount(bits) < Integer.bitCount(best))) {
                best = bits;
            }
        }
        return best;
    }

    public int reach(int reach, int what) throws NoSuchElementException {
        needReach(reach);
        needWhat(what, 2);
        if (what == 0) {
            return book.waters.flow[reach];
        }
        return what == 1 ? book.waters.spin[reach] : book.waters.onesOn(told, reach);
    }

    public int judge(int judge, int what) throws NoSuchElementException {
        needJudge(judge);
        switch (what) {
            case 0: return book.waters.where[judge];
            case 1: return book.waters.faces[judge];
            case 2: return book.waters.seen[judge];
            case 3: return told.lean[judge];
            case 4: return told.letGo[judge];
            case 5: return told.bigot[judge] ? 1 : 0;
            default: throw new NoSuchElementException("no such what");
        }
    }

    public int steps(int many) {
        if (many < 1 || many > MOST_STEPS_OF_AN_ACT || book.waters.step + many > LAST_STEP) {
            return refuse(REFUSED_ACTS);
        }
        book.keepAct();
        for (int t = 0; t < many; t++) {
            book.waters.pass(told, false);
        }
        return book.waters.step;
    }

    public int call(int judge) throws NoSuchElementException {
        needJudge(judge);
        if (book.waters.where[judge] < 0) {
            return refuse(REFUSED_ACTS);
        }
        book.keepAct();
        book.waters.goOn(told, judge, 1);
        return book.waters.where[judge];
    }

    public int paddle(int judge, int side) throws NoSuchElementException {
        needJudge(judge);
        needSide(side);
        int faced = book.waters.faces[judge];
        if (book.waters.where[judge] == LANDED || faced == side) {
            return refuse(REFUSED_ACTS);
        }
        book.keepAct();
        book.waters.faces[judge] = side;
        return faced;
    }

    public int carry(int judge, int reach) throws NoSuchElementException {
        needJudge(judge);
        needReach(reach);
        int was = book.waters.where[judge];
        if (was == NONE || was == reach) {
            return refuse(REFUSED_ACTS);
        }
        book.keepAct();
        book.waters.where[judge] = reach;
        return was;
    }

    public int dredge(int reach, int flow, int spin) throws NoSuchElementException {
        needReach(reach);
        if (flow < 0 || flow > MOST_FLOW || spin < 0 || spin > MOST_SPIN) {
            return refuse(REFUSED_ACTS);
        }
        book.keepAct();
        int was = 10 * book.waters.flow[reach] + book.waters.spin[reach];
        book.waters.flow[reach] = flow;
        book.waters.spin[reach] = spin;
        return was;
    }

    private int refuse(int status) {
        book.refused[status]++;
        return NONE;
    }

    public int undo() {
        return book.undoAct() ? book.acts : NONE;
    }

    public int then(int judge, int steps, int what)
            throws NoSuchElementException, IllegalArgumentException {
        needJudge(judge);
        needWhat(what, 2);
        needSteps(steps, 0, HORIZON);
        tryFor(steps);
        if (what == 0) {
            return trial.where[judge];
        }
        return what == 1 ? trial.faces[judge] : trial.seen[judge];
    }

    public int when(int judge, int what) throws NoSuchElementException {
        needJudge(judge);
        needWhat(what, 1);
        tryFromNow();
        return what == 0 ? stepsTillFair(judge) : stepsTillLanded(judge);
    }

    /** Goes on with the trial as it stands. */
    private int stepsTillFair(int judge) {
        for (int t = 0; t <= HORIZON; t++) {
            if (trial.isFair(told, judge)) {
                return t;
            }
            trial.pass(told, false);
        }
        return NONE;
    }

    private int stepsTillLanded(int judge) {
        for (int t = 0; t <= HORIZON; t++) {
            if (trial.where[judge] == LANDED) {
                return t;
            }
            trial.pass(told, false);
        }
        return NONE;
    }

    public int later(int steps, int what) throws NoSuchElementException, IllegalArgumentException {
        needWhat(what, 3);
        needSteps(steps, 0, HORIZON);
        tryFor(steps);
        switch (what) {
            case 0: return trial.fairOnes(told);
            case 1: return trial.landedOnes(told);
            case 2: return trial.afloatOnes(told);
            default: return trial.crowd(told);
        }
    }

    public int beside(int judge, int other) throws NoSuchElementException {
        needJudge(judge);
        needJudge(other);
        if (judge == other) {
            return NONE;
        }
        tryFromNow();
        for (int t = 0; t <= HORIZON; t++) {
            if (trial.where[judge] >= 0 && trial.where[judge] == trial.where[other]) {
                return t;
            }
            trial.pass(told, false);
        }
        return NONE;
    }

    public int first() {
        int before = book.waters.landedOnes(told);
        tryFromNow();
        for (int t = 1; t <= HORIZON; t++) {
            trial.pass(told, false);
            int landed = trial.landedOnes(told) & ~before;
            if (landed != 0) {
                return Integer.numberOfTrailingZeros(landed);
            }
        }
        return NONE;
    }

    public int last(int judge) throws NoSuchElementException {
        needJudge(judge);
        tryFromNow();
        int last = NONE;
        for (int t = 1; t <= HORIZON; t++) {
            int before = trial.seen[judge];
            trial.pass(told, false);
            int fresh = trial.seen[judge] & ~before;
            if (fresh != 0) {
                last = Integer.numberOfTrailingZeros(fresh);
            }
        }
        return last;
    }

    public int still(int judge, int steps, int what)
            throws NoSuchElementException, IllegalArgumentException {
        needJudge(judge);
        needWhat(what, 1);
        needSteps(steps, 1, HORIZON);
        tryFromNow();
        int many = 0;
        for (int t = 1; t <= steps; t++) {
            trial.pass(told, false);
            if (what == 0 ? trial.isOnPool(judge) : trial.isAlone(told, judge)) {
                many++;
            }
        }
        return many;
    }

    public int turned(int judge, int steps) throws NoSuchElementException, IllegalArgumentException {
        needJudge(judge);
        needSteps(steps, 0, HORIZON);
        tryFor(steps);
        return trial.turned[judge];
    }

    public int stay(int judge) throws NoSuchElementException {
        needJudge(judge);
        tryFromNow();
        int longest = 0;
        int row = 0;
        int place = NONE;
        for (int t = 1; t <= HORIZON; t++) {
            trial.pass(told, false);
            row = trial.where[judge] == place ? row + 1 : 1;
            place = trial.where[judge];
            if (place >= 0 && row > longest) {
                longest = row;
            }
        }
        return longest;
    }

    public int toSet(int judge, int what) throws NoSuchElementException {
        needJudge(judge);
        needWhat(what, 1);
        int best = NONE;
        int soonest = NONE;
        for (int side = 0; side < told.sides; side++) {
            tryFromNow();
            trial.faces[judge] = side;
            int whole = stepsTillFair(judge);
            if (isSooner(whole, soonest)) {
                soonest = whole;
                best = side;
            }
        }
        return what == 0 ? best : soonest;
    }

    private static boolean isSooner(int whole, int other) {
        return whole != NONE && (other == NONE || whole < other);
    }

    public int toSpin(int reach, int steps, int what)
            throws NoSuchElementException, IllegalArgumentException {
        needReach(reach);
        needWhat(what, 1);
        needSteps(steps, 1, HORIZON);
        int best = 0;
        int most = NONE;
        for (int spin = 0; spin <= MOST_SPIN; spin++) {
            tryFromNow();
            trial.spin[reach] = spin;
            goOnTrying(steps);
            int fair = Integer.bitCount(trial.fairOnes(told));
            if (fair > most) {
                most = fair;
                best = spin;
            }
        }
        return what == 0 ? best : most;
    }

    public int toCall(int judge) throws NoSuchElementException {
        needJudge(judge);
        tryFromNow();
        int soonest = stepsTillFair(judge);
        int best = NONE;
        for (int called = 0; called < told.judges; called++) {
            if (book.waters.where[called] >= 0) {
                tryFromNow();
                trial.goOn(told, called, 1);
                int whole = stepsTillFair(judge);
                if (isSooner(whole, soonest)) {
                    soonest = whole;
                    best = called;
                }
            }
        }
        return best;
    }

    public int panel(int what) throws NoSuchElementException {
        needWhat(what, 1);
        bench.fill(told, book.waters);
        return what == 0 ? bench.given : bench.leaning;
    }

    public int seat(int side) throws NoSuchElementException {
        needSide(side);
        bench.fill(told, book.waters);
        return bench.seats[side];
    }

    public int unlike(int judge, int other) throws NoSuchElementException {
        needJudge(judge);
        needJudge(other);
        return Integer.bitCount(book.waters.seen[judge] ^ book.waters.seen[other]);
    }

    public int sides(int steps, int what) throws NoSuchElementException, IllegalArgumentException {
        needWhat(what, 1);
        needSteps(steps, 0, HORIZON);
        tryFor(steps);
        int some = 0;
        int each = told.allSides();
        for (int j = 0; j < told.judges; j++) {
            some |= trial.seen[j];
            each &= trial.seen[j];
        }
        return what == 0 ? some : each;
    }

    public int facing(int side, int steps) throws NoSuchElementException, IllegalArgumentException {
        needSide(side);
        needSteps(steps, 0, HORIZON);
        tryFor(steps);
        int bits = 0;
        for (int j = 0; j < told.judges; j++) {
            if (trial.where[j] >= 0 && trial.faces[j] == side) {
                bits |= 1 << j;
            }
        }
        return bits;
    }

    public int agree(int judge, int other, int steps)
            throws NoSuchElementException, IllegalArgumentException {
        needJudge(judge);
        needJudge(other);
        needSteps(steps, 1, HORIZON);
        tryFromNow();
        int many = 0;
        for (int t = 1; t <= steps; t++) {
            trial.pass(told, false);
            if (trial.where[judge] >= 0 && trial.where[other] >= 0
                    && trial.faces[judge] == trial.faces[other]) {
                many++;
            }
        }
        return many;
    }

    public int see(int judge, int steps, int side) throws NoSuchElementException {
        needJudge(judge);
        if (book.sightings >= MOST_SIGHTINGS || steps < 0 || steps > MOST_STEPS_OF_A_SIGHTING
                || side < 0 || side >= told.sides) {
            return refuse(REFUSED_SIGHTINGS);
        }
        book.keepSighting(judge, steps, side);
        return book.sightings;
    }

    public int leans(int what) throws NoSuchElementException {
        needWhat(what, 2);
        if (what == 2) {
            tryFromNow();
            return sightingsHold() ? 1 : 0;
        }
        int many = 0;
        for (int guess = 0; guess < 10 * told.judges; guess++) {
            if (tryGuess(guess) && sightingsHold()) {
                if (what == 1) {
                    return guess;
                }
                many++;
            }
        }
        return what == 1 ? NONE : many;
    }

    /**
     * The trial is as now, but by a guess: 10 by a judge, and the lean that one is guessed to have.
     * False: one has that lean.
     */
    private boolean tryGuess(int guess) {
        int judge = guess / 10;
        int lean = guess % 10;
        tryFromNow();
        trial.lean[judge] = lean;
        return told.lean[judge] != lean;
    }

    /** Goes on with the trial as it stands. */
    private boolean sightingsHold() {
        int last = book.lastSightingStep();
        for (int t = 0; t <= last; t++) {
            if (t > 0) {
                trial.pass(told, false);
            }
            for (int i = 0; i < book.sightings; i++) {
                if (book.sightedStep[i] == t
                        && trial.faces[book.sightedJudge[i]] != book.sightedSide[i]) {
                    return false;
                }
            }
        }
        return true;
    }

    public int watch(int what) throws NoSuchElementException {
        needWhat(what, 1);
        Arrays.fill(places, 0);
        for (int guess = 0; guess < 10 * told.judges; guess++) {
            if (tryGuess(guess) && sightingsHold()) {
                addPlaces(guess);
            }
        }
        int best = NONE;
        int most = 0;
        for (int j = 0; j < told.judges; j++) {
            int unlike = Integer.bitCount(places[j]);
            if (unlike > most) {
                most = unlike;
                best = j;
            }
        }
        return what == 0 ? best : most;
    }

    private void addPlaces(int guess) {
        tryGuess(guess);
        goOnTrying(WATCH_STEPS);
        for (int j = 0; j < told.judges; j++) {
            places[j] |= 1 << (trial.where[j] - LANDED);
        }
    }

    public void forget() {
        book.sightings = 0;
    }

    public int floods(int judge, int steps, int tenths)
            throws NoSuchElementException, IllegalArgumentException {
        needJudge(judge);
        needSteps(steps, 1, MOST_FLOOD_STEPS);
        if (tenths < 0 || tenths > 10) {
            throw new IllegalArgumentException("not 0 to 10 tenths");
        }
        int fair = 0;
        for (int flooded = 0; flooded < 1 << steps; flooded++) {
            tryFromNow();
            int weight = 1;
            for (int t = 0; t < steps; t++) {
                boolean flood = (flooded >> t & 1) == 1;
                weight *= flood ? tenths : 10 - tenths;
                trial.pass(told, flood);
            }
            if (trial.isFair(told, judge)) {
                fair += weight;
            }
        }
        return fair;
    }

    public int game(int judge, int other, int what)
            throws NoSuchElementException, IllegalArgumentException {
        needJudge(judge);
        needJudge(other);
        needWhat(what, 1);
        if (judge == other) {
            throw new IllegalArgumentException("both are one");
        }
        // A couple of choices is two bits: the first one's is the higher.
        int open = 0;
        if (book.waters.where[judge] != LANDED) {
            open |= 2;
        }
        if (book.waters.where[other] != LANDED) {
            open |= 1;
        }
        for (int couple = 0; couple < 4; couple++) {
            play(judge, other, couple & open);
        }
        int many = 0;
        int first = NONE;
        for (int couple = 0; couple < 4; couple++) {
            if ((couple & ~open) == 0 && rests(couple, open)) {
                many++;
                if (first == NONE) {
                    first = 10 * (couple >> 1) + (couple & 1);
                }
            }
        }
        return what == 0 ? many : first;
    }

    private void play(int judge, int other, int couple) {
        tryFromNow();
        if ((couple & 2) != 0) {
            trial.turnBy(told, judge, 1);
        }
        if ((couple & 1) != 0) {
            trial.turnBy(told, other, 1);
        }
        goOnTrying(GAME_STEPS);
        int seen = trial.seen[judge];
        int otherSeen = trial.seen[other];
        gains[couple] = 2 * Integer.bitCount(seen & ~otherSeen) - (couple >> 1);
        otherGains[couple] = 2 * Integer.bitCount(otherSeen & ~seen) - (couple & 1);
    }

    private boolean rests(int couple, int open) {
        return gains[couple ^ (open & 2)] <= gains[couple]
                && otherGains[couple ^ (open & 1)] <= otherGains[couple];
    }

    public int years(int seed, int n, int what)
            throws NoSuchElementException, IllegalArgumentException {
        needWhat(what, 2);
        needSteps(n, 0, HORIZON);
        tryFromNow();
        int chance = seed;
        for (int t = 0; t < n; t++) {
            chance = befall(chance);
            trial.pass(told, false);
        }
        if (what == 0) {
            return Integer.bitCount(trial.landedOnes(told) & ~book.waters.landedOnes(told));
        }
        return what == 1 ? Integer.bitCount(trial.fairOnes(told)) : trial.turnedByAll(told);
    }

    /** What chance does ahead of a step of the trial; answers the seed as it is then. */
    private int befall(int seed) {
        int chance = stir(seed);
        int kind = draw(chance, 6);
        if (kind == 2 && told.reaches > 0) {
            chance = stir(chance);
            int reach = draw(chance, told.reaches);
            chance = stir(chance);
            trial.spin[reach] = draw(chance, MOST_SPIN + 1);
        }
        if (kind > 1 || told.judges == 0) {
            return chance;
        }
        chance = stir(chance);
        int judge = draw(chance, told.judges);
        if (kind == 0) {
            trial.goOn(told, judge, 1);
            return chance;
        }
        chance = stir(chance);
        if (trial.where[judge] != LANDED) {
            trial.faces[judge] = draw(chance, told.sides);
        }
        return chance;
    }

    private static int stir(int seed) {
        return seed * 1103515245 + 12345;
    }

    private static int draw(int seed, int n) {
        return rest(seed >> 16 & 32767, n);
    }

    private static int rest(int number, int divisor) {
        return divisor > 0 ? number % divisor : 0;
    }

    public void image() {
        imageBook.copyFrom(book);
        imageKept = true;
    }

    public boolean restore() {
        if (!imageKept) {
            return false;
        }
        book.copyFrom(imageBook);
        return true;
    }

    private void tryFromNow() {
        trial.copyFrom(book.waters);
    }

    /** The trial is as it would be behind so many steps from now on. */
    private void tryFor(int steps) {
        tryFromNow();
        goOnTrying(steps);
    }

    private void goOnTrying(int steps) {
        for (int t = 0; t < steps; t++) {
            trial.pass(told, false);
        }
    }

    private void needJudge(int judge) {
        if (judge < 0 || judge >= told.judges) {
            throw new NoSuchElementException("no such judge");
        }
    }

    private void needReach(int reach) {
        if (reach < 0 || reach >= told.reaches) {
            throw new NoSuchElementException("no such reach");
        }
    }

    private void needSide(int side) {
        if (side < 0 || side >= told.sides) {
            throw new NoSuchElementException("no such side");
        }
    }

    private static void needWhat(int what, int most) {
        if (what < 0 || what > most) {
            throw new NoSuchElementException("no such what");
        }
    }

    private static void needSteps(int steps, int least, int most) {
        if (steps < least || steps > most) {
            throw new IllegalArgumentException("not so many steps");
        }
    }

    /** What a text tells; steps and acts leave it as it is. */
    private static final class Gorge {
        int sides = 4;
        int reaches = 0;
        int judges = 0;
        final int[] flow = new int[MOST_REACHES];
        final int[] spin = new int[MOST_REACHES];
        final int[] side = new int[MOST_JUDGES];
        final int[] lean = new int[MOST_JUDGES];
        final int[] letGo = new int[MOST_JUDGES];
        final boolean[] bigot = new boolean[MOST_JUDGES];
        final int[] code = new int[MOST_BYTES];
        int codeLength = 0;
        int turnsFrom = 0;
        int turnsTo = 0;
        int goesFrom = 0;
        int goesTo = 0;

        void clear() {
            sides = 4;
            reaches = 0;
            judges = 0;
            codeLength = 0;
            turnsFrom = 0;
            turnsTo = 0;
            goesFrom = 0;
            goesTo = 0;
        }

        int allSides() {
            return (1 << sides) - 1;
        }

        // A rule that is told has some code.
        boolean hasTurns() {
            return turnsFrom < turnsTo;
        }

        boolean hasGoes() {
            return goesFrom < goesTo;
        }

        void emit(int op, int argument) {
            if (codeLength < code.length) {
                code[codeLength] = argument * Machine.OPS + op;
                codeLength++;
            }
        }
    }

    /** Reads a text into a gorge, up to its first fault. */
    private static final class Reader {
        private static final int END = 0;
        private static final int WORD = 1;
        private static final int NUMBER = 2;
        private static final int SIGN = 3;
        private static final int STRANGE = 4;
        private static final int MOST_DIGITS = 4;
        private static final int MOST_NESTED = 6;
        private static final int MOST_NOTS = 6;
        private static final int CANNOT_STAND = 1;
        private static final int TOO_MUCH = 2;
        private static final int UNKNOWN = 3;
        private static final int BEHIND_JUDGE = 4;
        private static final int SECOND = 5;

        int fault = 0;
        int place = NONE;
        private byte[] text = new byte[0];
        private int length = 0;
        // What a text with a fault has left here is never looked at.
        private Gorge gorge = new Gorge();
        private int at = 0;
        private int end = 0;
        private int kind = END;
        private int digits = 0;
        private int value = 0;
        private int number = 0;
        private boolean sidesTold = false;
        private boolean inTurns = false;

        /** Hands out the gorge that was read; the next text is read into the other one. */
        Gorge exchange(Gorge other) {
            Gorge read = gorge;
            gorge = other;
            return read;
        }

        boolean read(byte[] bytes, int n) {
            text = bytes;
            length = Math.min(n, bytes.length);
            gorge.clear();
            fault = 0;
            place = NONE;
            sidesTold = false;
            end = 0;
            next();
            for (int lines = 0; lines <= length && kind != END; lines++) {
                if (!readLine()) {
                    return false;
                }
            }
            return true;
        }

        private boolean refuseToken(int code) {
            fault = code;
            place = at;
            return false;
        }

        private void next() {
            at = end;
            while (at < length && isBlank(text[at])) {
                at++;
            }
            end = at;
            if (at >= length) {
                kind = END;
            } else if (isLetter(text[at])) {
                kind = WORD;
                while (end < length && isLetter(text[end])) {
                    end++;
                }
            } else if (isDigit(text[at])) {
                kind = NUMBER;
                takeDigits();
            } else {
                kind = isSignByte(text[at]) ? SIGN : STRANGE;
                end++;
            }
        }

        private void takeDigits() {
            digits = 0;
            value = 0;
            while (end < length && text[end] >= '0' && text[end] <= '9') {
                digits++;
                if (digits <= MOST_DIGITS) {
                    value = value * 10 + text[end] - '0';
                }
                end++;
            }
        }

        private static boolean isBlank(int b) {
            return b == 32 || b == 10;
        }

        private static boolean isLetter(int b) {
            return b >= 'a' && b <= 'z';
        }

        private static boolean isDigit(int b) {
            return b >= '0' && b <= '9';
        }

        private static boolean isSignByte(int b) {
            return b == ';' || b == '(' || b == ')' || b == '+' || b == '-' || b == '*'
                    || b == '/' || b == '<' || b == '=';
        }

        private boolean isSign(char sign) {
            return kind == SIGN && at < length && text[at] == sign;
        }

        private boolean isWord(String word) {
            if (kind != WORD || end - at != word.length()) {
                return false;
            }
            for (int i = 0; i < word.length() && at + i < length; i++) {
                if (text[at + i] != word.charAt(i)) {
                    return false;
                }
            }
            return true;
        }

        private boolean readLine() {
            if (isWord("sides")) {
                return readSides();
            }
            if (isWord("reach")) {
                return readReach();
            }
            if (isWord("judge")) {
                return readJudge(false);
            }
            if (isWord("bigot")) {
                return readJudge(true);
            }
            if (isWord("turns")) {
                return readTurns();
            }
            if (isWord("goes")) {
                return readGoes();
            }
            return refuseToken(CANNOT_STAND);
        }

        private boolean readSides() {
            if (gorge.judges > 0) {
                return refuseToken(BEHIND_JUDGE);
            }
            if (sidesTold) {
                return refuseToken(SECOND);
            }
            next();
            if (!readNumber(2, MOST_SIDES, TOO_MUCH)) {
                return false;
            }
            sidesTold = true;
            gorge.sides = number;
            return readSign(';');
        }

        private boolean readReach() {
            int reach = gorge.reaches;
            if (reach >= MOST_REACHES) {
                return refuseToken(TOO_MUCH);
            }
            next();
            if (!readNumber(0, MOST_FLOW, TOO_MUCH)) {
                return false;
            }
            gorge.flow[reach] = number;
            if (!readNumber(0, MOST_SPIN, TOO_MUCH)) {
                return false;
            }
            gorge.spin[reach] = number;
            gorge.reaches++;
            return readSign(';');
        }

        private boolean readJudge(boolean bigot) {
            int judge = gorge.judges;
            if (judge >= MOST_JUDGES) {
                return refuseToken(TOO_MUCH);
            }
            next();
            if (!readNumber(0, gorge.sides - 1, UNKNOWN)) {
                return false;
            }
            gorge.side[judge] = number;
            if (!readNumber(0, MOST_LEAN, TOO_MUCH)) {
                return false;
            }
            gorge.lean[judge] = number;
            if (!readNumber(0, 20, TOO_MUCH)) {
                return false;
            }
            gorge.letGo[judge] = number;
            gorge.bigot[judge] = bigot;
            gorge.judges++;
            return readSign(';');
        }

        private boolean readTurns() {
            if (gorge.hasTurns()) {
                return refuseToken(SECOND);
            }
            next();
            inTurns = true;
            gorge.turnsFrom = gorge.codeLength;
            if (!readExpr(0)) {
                return false;
            }
            gorge.turnsTo = gorge.codeLength;
            return readSign(';');
        }

        private boolean readGoes() {
            if (gorge.hasGoes()) {
                return refuseToken(SECOND);
            }
            next();
            inTurns = false;
            gorge.goesFrom = gorge.codeLength;
            if (!readExpr(0)) {
                return false;
            }
            gorge.goesTo = gorge.codeLength;
            return readSign(';');
        }

        private boolean readSign(char sign) {
            if (!isSign(sign)) {
                return refuseToken(CANNOT_STAND);
            }
            next();
            return true;
        }

        private boolean readNumber(int least, int most, int faultOutside) {
            if (kind != NUMBER) {
                return refuseToken(CANNOT_STAND);
            }
            if (digits > MOST_DIGITS) {
                return refuseToken(TOO_MUCH);
            }
            if (value < least || value > most) {
                return refuseToken(faultOutside);
            }
            number = value;
            next();
            return true;
        }

        private boolean readExpr(int nested) {
            if (nested >= MOST_NESTED) {
                boolean can = kind == NUMBER || kind == WORD || isSign('(');
                return refuseToken(can ? TOO_MUCH : CANNOT_STAND);
            }
            if (!readAnd(nested)) {
                return false;
            }
            for (int i = 0; i <= length && isWord("or"); i++) {
                next();
                if (!readAnd(nested)) {
                    return false;
                }
                gorge.emit(Machine.OR, 0);
            }
            return true;
        }

        private boolean readAnd(int nested) {
            if (!readNot(nested)) {
                return false;
            }
            for (int i = 0; i <= length && isWord("and"); i++) {
                next();
                if (!readNot(nested)) {
                    return false;
                }
                gorge.emit(Machine.AND, 0);
            }
            return true;
        }

        private boolean readNot(int nested) {
            int nots = 0;
            for (; nots <= MOST_NOTS && isWord("not"); nots++) {
                if (nots == MOST_NOTS) {
                    return refuseToken(TOO_MUCH);
                }
                next();
            }
            if (!readSum(nested)) {
                return false;
            }
            if (isSign('<') || isSign('=')) {
                int op = isSign('<') ? Machine.LESS : Machine.SAME;
                next();
                if (!readSum(nested)) {
                    return false;
                }
                gorge.emit(op, 0);
            }
            for (int i = 0; i < nots; i++) {
                gorge.emit(Machine.NOT, 0);
            }
            return true;
        }

        private boolean readSum(int nested) {
            if (!readProduct(nested)) {
                return false;
            }
            for (int i = 0; i <= length && (isSign('+') || isSign('-')); i++) {
                int op = isSign('+') ? Machine.PLUS : Machine.MINUS;
                next();
                if (!readProduct(nested)) {
                    return false;
                }
                gorge.emit(op, 0);
            }
            return true;
        }

        private boolean readProduct(int nested) {
            if (!readPart(nested)) {
                return false;
            }
            for (int i = 0; i <= length && (isSign('*') || isSign('/')); i++) {
                int op = isSign('*') ? Machine.TIMES : Machine.BY;
                next();
                if (!readPart(nested)) {
                    return false;
                }
                gorge.emit(op, 0);
            }
            return true;
        }

        private boolean readPart(int nested) {
            if (kind == NUMBER) {
                if (!readNumber(0, 9999, TOO_MUCH)) {
                    return false;
                }
                gorge.emit(Machine.PUSH, number);
                return true;
            }
            if (kind == WORD) {
                int what = valueWord();
                if (what == NONE) {
                    return refuseToken(UNKNOWN);
                }
                gorge.emit(Machine.VALUE, what);
                next();
                return true;
            }
            return readSign('(') && readExpr(nested + 1) && readSign(')');
        }

        private int valueWord() {
            if (isWord("lean")) {
                return Machine.LEAN;
            }
            if (isWord("seen")) {
                return Machine.SEEN;
            }
            if (isWord("faces")) {
                return Machine.FACES;
            }
            if (isWord("here")) {
                return Machine.HERE;
            }
            if (isWord("step")) {
                return Machine.STEP;
            }
            return isWord(inTurns ? "spin" : "flow") ? Machine.OF_REACH : NONE;
        }
    }

    /** Works out a rule: its code is the expression with each operator behind its parts. */
    private static final class Machine {
        static final int PUSH = 0;
        static final int VALUE = 1;
        static final int PLUS = 2;
        static final int MINUS = 3;
        static final int TIMES = 4;
        static final int BY = 5;
        static final int LESS = 6;
        static final int SAME = 7;
        static final int AND = 8;
        static final int OR = 9;
        static final int NOT = 10;
        static final int OPS = 16;

        static final int LEAN = 0;
        static final int SEEN = 1;
        static final int FACES = 2;
        static final int HERE = 3;
        static final int STEP = 4;
        static final int OF_REACH = 5;

        final int[] values = new int[6];
        // Six nested expressions leave at most five parts each waiting.
        private final int[] stack = new int[48];

        int result(int[] code, int from, int to) {
            int top = 0;
            for (int i = Math.max(from, 0); i < to && i < code.length; i++) {
                int op = code[i] % OPS;
                int argument = code[i] / OPS;
                if (op == PUSH || op == VALUE) {
                    if (top >= stack.length) {
                        return 0;
                    }
                    stack[top] = op == PUSH ? argument : valueOf(argument);
                    top++;
                } else if (op == NOT) {
                    if (top < 1) {
                        return 0;
                    }
                    stack[top - 1] = stack[top - 1] == 0 ? 1 : 0;
                } else {
                    if (top < 2) {
                        return 0;
                    }
                    top--;
                    stack[top - 1] = combine(op, stack[top - 1], stack[top]);
                }
            }
            return top > 0 ? stack[0] : 0;
        }

        private int valueOf(int what) {
            return what >= 0 && what < values.length ? values[what] : 0;
        }

        private static int combine(int op, int a, int b) {
            switch (op) {
                case PLUS: return a + b;
                case MINUS: return a - b;
                case TIMES: return a * b;
                case BY: return b == 0 ? 0 : a / b;
                case LESS: return a < b ? 1 : 0;
                case SAME: return a == b ? 1 : 0;
                case AND: return a != 0 && b != 0 ? 1 : 0;
                default: return a != 0 || b != 0 ? 1 : 0;
            }
        }
    }

    /** All that steps and acts change, and how it changes; leans are here to be guessed at. */
    private static final class Waters {
        static final int CELLS = 3 * MOST_JUDGES + 2 * MOST_REACHES + 1;

        int step = 0;
        final int[] where = new int[MOST_JUDGES];
        final int[] faces = new int[MOST_JUDGES];
        final int[] seen = new int[MOST_JUDGES];
        final int[] lean = new int[MOST_JUDGES];
        final int[] turned = new int[MOST_JUDGES];
        final int[] flow = new int[MOST_REACHES];
        final int[] spin = new int[MOST_REACHES];
        private final Machine machine = new Machine();

        void begin(Gorge gorge) {
            step = 0;
            Arrays.fill(where, NONE);
            Arrays.fill(seen, 0);
            Arrays.fill(turned, 0);
            System.arraycopy(gorge.side, 0, faces, 0, MOST_JUDGES);
            System.arraycopy(gorge.lean, 0, lean, 0, MOST_JUDGES);
            System.arraycopy(gorge.flow, 0, flow, 0, MOST_REACHES);
            System.arraycopy(gorge.spin, 0, spin, 0, MOST_REACHES);
        }

        /** Turning is counted from the copy on. */
        void copyFrom(Waters other) {
            step = other.step;
            System.arraycopy(other.where, 0, where, 0, MOST_JUDGES);
            System.arraycopy(other.faces, 0, faces, 0, MOST_JUDGES);
            System.arraycopy(other.seen, 0, seen, 0, MOST_JUDGES);
            System.arraycopy(other.lean, 0, lean, 0, MOST_JUDGES);
            System.arraycopy(other.flow, 0, flow, 0, MOST_REACHES);
            System.arraycopy(other.spin, 0, spin, 0, MOST_REACHES);
            Arrays.fill(turned, 0);
        }

        void writeTo(int[] rows, int row) {
            int from = row * CELLS;
            if (from < 0 || from + CELLS > rows.length) {
                return;
            }
            System.arraycopy(where, 0, rows, from, MOST_JUDGES);
            System.arraycopy(faces, 0, rows, from + MOST_JUDGES, MOST_JUDGES);
            System.arraycopy(seen, 0, rows, from + 2 * MOST_JUDGES, MOST_JUDGES);
            int behind = from + 3 * MOST_JUDGES;
            System.arraycopy(flow, 0, rows, behind, MOST_REACHES);
            System.arraycopy(spin, 0, rows, behind + MOST_REACHES, MOST_REACHES);
            rows[from + CELLS - 1] = step;
        }

        void readFrom(int[] rows, int row) {
            int from = row * CELLS;
            if (from < 0 || from + CELLS > rows.length) {
                return;
            }
            System.arraycopy(rows, from, where, 0, MOST_JUDGES);
            System.arraycopy(rows, from + MOST_JUDGES, faces, 0, MOST_JUDGES);
            System.arraycopy(rows, from + 2 * MOST_JUDGES, seen, 0, MOST_JUDGES);
            int behind = from + 3 * MOST_JUDGES;
            System.arraycopy(rows, behind, flow, 0, MOST_REACHES);
            System.arraycopy(rows, behind + MOST_REACHES, spin, 0, MOST_REACHES);
            step = rows[from + CELLS - 1];
        }

        /** One step goes by, with a flood or without. */
        void pass(Gorge gorge, boolean flood) {
            for (int j = 0; j < gorge.judges; j++) {
                if (where[j] == NONE && gorge.letGo[j] == step) {
                    where[j] = gorge.reaches > 0 ? 0 : LANDED;
                }
            }
            for (int j = 0; j < gorge.judges; j++) {
                if (where[j] >= 0 && where[j] < gorge.reaches) {
                    drift(gorge, j, flood);
                }
            }
            step++;
        }

        private void drift(Gorge gorge, int judge, boolean flood) {
            int reach = where[judge];
            seen[judge] |= 1 << faces[judge];
            int turn = turnOn(gorge, judge, spin[reach]);
            turned[judge] += turn;
            turnBy(gorge, judge, turn);
            goOn(gorge, judge, wayOn(gorge, judge, flood ? MOST_FLOW : flow[reach]));
        }

        private int turnOn(Gorge gorge, int judge, int spinHere) {
            int turn;
            if (gorge.hasTurns()) {
                tellMachine(gorge, judge, spinHere);
                int asked = machine.result(gorge.code, gorge.turnsFrom, gorge.turnsTo);
                turn = Math.max(0, Math.min(MOST_TURN, asked));
            } else {
                turn = Math.max(0, spinHere - lean[judge]);
            }
            return gorge.bigot[judge] ? turn / 2 : turn;
        }

        private int wayOn(Gorge gorge, int judge, int flowHere) {
            if (gorge.hasGoes()) {
                tellMachine(gorge, judge, flowHere);
                int asked = machine.result(gorge.code, gorge.goesFrom, gorge.goesTo);
                return Math.max(0, Math.min(MOST_FLOW, asked));
            }
            return flowHere == 0 && isFair(gorge, judge) ? 1 : flowHere;
        }

        private void tellMachine(Gorge gorge, int judge, int ofReach) {
            machine.values[Machine.LEAN] = lean[judge];
            machine.values[Machine.SEEN] = Integer.bitCount(seen[judge]);
            machine.values[Machine.FACES] = faces[judge];
            machine.values[Machine.HERE] = Integer.bitCount(onesOn(gorge, where[judge])) - 1;
            machine.values[Machine.STEP] = step;
            machine.values[Machine.OF_REACH] = ofReach;
        }

        void turnBy(Gorge gorge, int judge, int turn) {
            faces[judge] = rest(faces[judge] + turn, gorge.sides);
        }

        /** Only who is on a reach goes on. */
        void goOn(Gorge gorge, int judge, int by) {
            if (where[judge] >= 0) {
                int to = where[judge] + by;
                where[judge] = to < gorge.reaches ? to : LANDED;
            }
        }

        boolean isFair(Gorge gorge, int judge) {
            return seen[judge] == gorge.allSides();
        }

        boolean isOnPool(int judge) {
            int reach = where[judge];
            return reach >= 0 && reach < flow.length && flow[reach] == 0;
        }

        boolean isAlone(Gorge gorge, int judge) {
            return where[judge] >= 0 && onesOn(gorge, where[judge]) == 1 << judge;
        }

        int onesOn(Gorge gorge, int place) {
            int bits = 0;
            for (int j = 0; j < gorge.judges; j++) {
                if (where[j] == place) {
                    bits |= 1 << j;
                }
            }
            return bits;
        }

        int landedOnes(Gorge gorge) {
            return onesOn(gorge, LANDED);
        }

        int afloatOnes(Gorge gorge) {
            int bits = 0;
            for (int j = 0; j < gorge.judges; j++) {
                if (where[j] >= 0) {
                    bits |= 1 << j;
                }
            }
            return bits;
        }

        int fairOnes(Gorge gorge) {
            int bits = 0;
            for (int j = 0; j < gorge.judges; j++) {
                if (isFair(gorge, j)) {
                    bits |= 1 << j;
                }
            }
            return bits;
        }

        int pools(Gorge gorge) {
            int bits = 0;
            for (int r = 0; r < gorge.reaches; r++) {
                if (flow[r] == 0) {
                    bits |= 1 << r;
                }
            }
            return bits;
        }

        int crowd(Gorge gorge) {
            int best = NONE;
            int most = 0;
            for (int r = 0; r < gorge.reaches; r++) {
                int many = Integer.bitCount(onesOn(gorge, r));
                if (many > most) {
                    most = many;
                    best = r;
                }
            }
            return best;
        }

        int turnedByAll(Gorge gorge) {
            int all = 0;
            for (int j = 0; j < gorge.judges; j++) {
                all += turned[j];
            }
            return all;
        }
    }

    /** What an image keeps: the waters, the acts that can be undone, sightings and status. */
    private static final class Book {
        final Waters waters = new Waters();
        final int[] refused = new int[3];
        int acts = 0;
        int sightings = 0;
        final int[] sightedJudge = new int[MOST_SIGHTINGS];
        final int[] sightedStep = new int[MOST_SIGHTINGS];
        final int[] sightedSide = new int[MOST_SIGHTINGS];
        // Of each act the waters ahead of it, in a ring.
        private final int[] rows = new int[MOST_ACTS * Waters.CELLS];
        private int oldest = 0;

        /** All but the status is as behind a new text. */
        void begin(Gorge gorge) {
            waters.begin(gorge);
            acts = 0;
            oldest = 0;
            sightings = 0;
        }

        void copyFrom(Book other) {
            waters.copyFrom(other.waters);
            System.arraycopy(other.refused, 0, refused, 0, refused.length);
            acts = other.acts;
            oldest = other.oldest;
            System.arraycopy(other.rows, 0, rows, 0, rows.length);
            sightings = other.sightings;
            System.arraycopy(other.sightedJudge, 0, sightedJudge, 0, MOST_SIGHTINGS);
            System.arraycopy(other.sightedStep, 0, sightedStep, 0, MOST_SIGHTINGS);
            System.arraycopy(other.sightedSide, 0, sightedSide, 0, MOST_SIGHTINGS);
        }

        void keepAct() {
            if (acts == MOST_ACTS) {
                oldest = rest(oldest + 1, MOST_ACTS);
                acts--;
            }
            waters.writeTo(rows, rest(oldest + acts, MOST_ACTS));
            acts++;
        }

        boolean undoAct() {
            if (acts == 0) {
                return false;
            }
            acts--;
            waters.readFrom(rows, rest(oldest + acts, MOST_ACTS));
            return true;
        }

        void keepSighting(int judge, int step, int side) {
            if (sightings < MOST_SIGHTINGS) {
                sightedJudge[sightings] = judge;
                sightedStep[sightings] = step;
                sightedSide[sightings] = side;
                sightings++;
            }
        }

        int lastSightingStep() {
            int last = 0;
            for (int i = 0; i < sightings; i++) {
                last = Math.max(last, sightedStep[i]);
            }
            return last;
        }
    }

    /** Gives sides to judges who have seen them: as many as can, then with the least lean. */
    private static final class Panel {
        private static final int SETS = 1 << MOST_JUDGES;
        // Above the lean of all judges together, so that one more side outweighs it.
        private static final int GIVEN = 100;

        int given = 0;
        int leaning = 0;
        final int[] seats = new int[MOST_SIDES];
        // By a side and the set of judges who have one: the worth of what can still be given.
        private final int[] worth = new int[(MOST_SIDES + 1) * SETS];

        void fill(Gorge gorge, Waters waters) {
            int sets = 1 << gorge.judges;
            for (int used = 0; used < sets; used++) {
                worth[gorge.sides * SETS + used] = 0;
            }
            for (int side = gorge.sides - 1; side >= 0; side--) {
                for (int used = 0; used < sets; used++) {
                    worth[side * SETS + used] = bestWorth(gorge, waters, side, used);
                }
            }
            given = 0;
            leaning = 0;
            int used = 0;
            for (int side = 0; side < gorge.sides; side++) {
                int judge = firstBest(gorge, waters, side, used);
                seats[side] = judge;
                if (judge != NONE) {
                    given++;
                    leaning += gorge.lean[judge];
                    used |= 1 << judge;
                }
            }
        }

        private int bestWorth(Gorge gorge, Waters waters, int side, int used) {
            int best = worth[(side + 1) * SETS + used];
            for (int j = 0; j < gorge.judges; j++) {
                if (mayHave(waters, side, used, j)) {
                    best = Math.max(best, worthWith(gorge, side, used, j));
                }
            }
            return best;
        }

        private int firstBest(Gorge gorge, Waters waters, int side, int used) {
            for (int j = 0; j < gorge.judges; j++) {
                if (mayHave(waters, side, used, j)
                        && worthWith(gorge, side, used, j) == worth[side * SETS + used]) {
                    return j;
                }
            }
            return NONE;
        }

        private static boolean mayHave(Waters waters, int side, int used, int judge) {
            return (used >> judge & 1) == 0 && (waters.seen[judge] >> side & 1) == 1;
        }

        private int worthWith(Gorge gorge, int side, int used, int judge) {
            return GIVEN - gorge.lean[judge] + worth[(side + 1) * SETS + (used | 1 << judge)];
        }
    }
}
