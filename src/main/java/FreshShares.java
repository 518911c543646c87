import java.util.Arrays;

/** A secret that seven members share and keep fresh. */
public final class FreshShares {
    public static final int UNKNOWN = -1, OUTSIDE = -2, STATE = -3, FULL = -4, NO = -5, NONE = -6, FAULT = -7;

    private static final int MEMBERS = 7;
    private static final int DEALER = 0;
    private static final int MEMBER_BITS = 0xFE;

    private static final int VALUES = 23;
    private static final int SEAL_NUMBERS = 47;
    private static final int SEAL_OF_ONE = 4;

    private static final int ROW_LENGTH = 5;
    private static final int EPOCHS = 200;
    private static final int LOOTS = 24;
    private static final int SIGNS = 10;
    private static final int IMAGES = 2;

    private static final int LIE = 0, SLIP = 1, FOE = 2, GRUDGE = 3, ANSWERS = 4;
    private static final int BENDS = 5;

    private static final int ANY_EPOCH = -1;

    private final Script script;
    private final Orders orders;
    private final Circle circle;
    /** Where nothing was kept, there is null. */
    private final Circle[] images;

    public FreshShares() {
        script = new Script();
        orders = new Orders();
        circle = orders.circle;
        images = new Circle[IMAGES];
    }

    // ---- 1 members

    public int row(int who, int j, int v) {
        if (who != DEALER && !isMember(who)) {
            return UNKNOWN;
        }
        if (j < 0 || j >= ROW_LENGTH || !isValue(v)) {
            return OUTSIDE;
        }
        int place = who * ROW_LENGTH + j;
        int before = circle.rows[place];
        circle.rows[place] = v;
        return before;
    }

    public int bent(int member, int what, int n) {
        if (!isMember(member)) {
            return UNKNOWN;
        }
        if (what < 0 || what >= BENDS || n < 0 || n > highestBend(what)) {
            return OUTSIDE;
        }
        int place = member * BENDS + what;
        int before = circle.bends[place];
        circle.bends[place] = n;
        return before;
    }

    public int member(int member, int what) {
        if (!isMember(member)) {
            return UNKNOWN;
        }
        if (what >= 0 && what <= 2) {
            return shareFacts(member, what);
        }
        if (what >= 3 && what < 3 + BENDS) {
            return circle.bends[member * BENDS + what - 3];
        }
        if (what >= 10 && what < 10 + ROW_LENGTH) {
            return circle.rows[member * ROW_LENGTH + what - 10];
        }
        return OUTSIDE;
    }

    // ---- 2 orders

    public int say(int sign) {
        if (sign < 33 || sign > 126) {
            return OUTSIDE;
        }
        return script.append(sign) ? script.length : FULL;
    }

    public int wipe() {
        int before = script.length;
        script.length = 0;
        return before;
    }

    public int fault() {
        return script.faultPlace();
    }

    public int act() {
        if (script.faultPlace() != NONE) {
            return FAULT;
        }
        int answer = orders.perform(script);
        // every refusal is below 0, and nothing that an ORDER comes to is
        if (answer >= 0) {
            script.length = 0;
            circle.ordersDone++;
        }
        return answer;
    }

    public int named(int what) {
        if (what == 0) {
            return circle.liars;
        }
        return what == 1 ? circle.struck : OUTSIDE;
    }

    public int fits(int v, int at) {
        if (!isValue(v) || !isValue(at)) {
            return OUTSIDE;
        }
        if (!circle.isDealt()) {
            return STATE;
        }
        return Sums.fitting(v, at, circle.seals, circle.threshold) ? 1 : 0;
    }

    public int seal(int j) {
        if (!circle.isDealt()) {
            return STATE;
        }
        if (j < 0 || j >= ROW_LENGTH || j >= circle.threshold) {
            return NONE;
        }
        return circle.seals[j];
    }

    public int weighs(int member, int set, int at) {
        if (!isValue(at) || (set & ~MEMBER_BITS) != 0) {
            return OUTSIDE;
        }
        if (!isMember(member) || !Sets.has(set, member)) {
            return UNKNOWN;
        }
        return Sums.weight(member, set, at);
    }

    // ---- 3 loot

    public int loot(int i, int what) {
        if (what < 0 || what > 2) {
            return OUTSIDE;
        }
        Loot stolen = circle.stolen;
        if (i < 0 || i >= stolen.size || i >= LOOTS) {
            return NONE;
        }
        if (what == 0) {
            return stolen.members[i];
        }
        return what == 1 ? stolen.epochs[i] : stolen.shares[i];
    }

    public int worlds(int epoch, int v) {
        if (!isValue(v) || !circle.wasEpoch(epoch)) {
            return OUTSIDE;
        }
        return orders.worldsLeft(epoch, v);
    }

    public int thief(int what) {
        if (what < 0 || what > 2) {
            return OUTSIDE;
        }
        if (!circle.isDealt()) {
            return STATE;
        }
        if (what == 2) {
            return orders.opened(ANY_EPOCH, circle.threshold);
        }
        int epoch = circle.firstLostEpoch();
        if (what == 0 || epoch == NONE) {
            return epoch;
        }
        return orders.opened(epoch, circle.thresholdOf(epoch));
    }

    // ---- 4 images

    public int image(int k) {
        if (k < 0 || k >= IMAGES) {
            return OUTSIDE;
        }
        Circle kept = images[k];
        if (kept == null) {
            kept = new Circle();
            images[k] = kept;
        }
        kept.copyFrom(circle);
        return 1;
    }

    public int restore(int k) {
        if (k < 0 || k >= IMAGES) {
            return OUTSIDE;
        }
        Circle kept = images[k];
        if (kept == null) {
            return NO;
        }
        circle.copyFrom(kept);
        return 1;
    }

    public int count(int what) {
        switch (what) {
            case 0:
                return circle.isDealt() ? circle.threshold : NONE;
            case 1:
                return circle.isDealt() ? circle.epoch : NONE;
            case 2:
                return Integer.bitCount(circle.holders);
            case 3:
                return circle.holders;
            case 4:
                return circle.stolen.size;
            case 5:
                return circle.ordersDone;
            case 6:
                return script.length;
            case 7:
                return keptImages();
            default:
                return what >= 10 && circle.wasEpoch(what - 10) ? circle.thresholdOf(what - 10) : OUTSIDE;
        }
    }

    private int keptImages() {
        int set = 0;
        for (int k = 0; k < IMAGES; k++) {
            if (images[k] != null) {
                set |= Sets.only(k);
            }
        }
        return set;
    }

    private int shareFacts(int member, int what) {
        if (!Sets.has(circle.holders, member)) {
            return NONE;
        }
        if (what == 0) {
            return circle.shares[member];
        }
        int told = circle.tells(member);
        if (what == 1) {
            return told;
        }
        return Sums.fitting(told, member, circle.seals, circle.threshold) ? 1 : 0;
    }

    private static boolean isMember(int m) {
        return m >= 1 && m <= MEMBERS;
    }

    private static boolean isValue(int v) {
        return v >= 0 && v < VALUES;
    }

    private static int highestBend(int what) {
        if (what == LIE || what == SLIP) {
            return VALUES - 1;
        }
        return what == FOE || what == GRUDGE ? MEMBERS : 1;
    }

    /** Sets of small numbers, as bits. */
    private static final class Sets {
        private Sets() {
        }

        static int only(int m) {
            return 1 << m;
        }

        static boolean has(int set, int m) {
            return (set >> m & 1) != 0;
        }

        /** The lowest MEMBERS of a set, at most so many. */
        static int lowest(int set, int many) {
            int chosen = 0;
            int left = many;
            for (int m = 1; m <= MEMBERS && left > 0; m++) {
                if (has(set, m)) {
                    chosen |= only(m);
                    left--;
                }
            }
            return chosen;
        }
    }

    /** Sums over VALUES and SEALS. */
    private static final class Sums {
        private Sums() {
        }

        static int plus(int a, int b) {
            return (a + b) % VALUES;
        }

        static int times(int a, int b) {
            return a * b % VALUES;
        }

        static int less(int a, int b) {
            return (a + VALUES - b) % VALUES;
        }

        /** What times a is 1: by Fermat, a to the power of two less than the prime. */
        static int inverse(int a) {
            int product = 1;
            for (int k = 0; k < VALUES - 2; k++) {
                product = product * a % VALUES;
            }
            return product;
        }

        static int joined(int oneSeal, int otherSeal) {
            return oneSeal * otherSeal % SEAL_NUMBERS;
        }

        /** A SEAL to the power of a VALUE. */
        static int raised(int base, int exponent) {
            int product = 1;
            for (int k = 0; k < exponent; k++) {
                product = product * base % SEAL_NUMBERS;
            }
            return product;
        }

        static int sealOf(int v) {
            return raised(SEAL_OF_ONE, v);
        }

        /** Whether a VALUE FITS the first so many SEALS of a row at a number. */
        static boolean fitting(int v, int at, int[] seals, int many) {
            // as a POLYNOMIAL is reckoned from its last VALUE on, one step higher up
            int product = 1;
            for (int j = Math.min(many, seals.length) - 1; j >= 0; j--) {
                product = joined(raised(product, at), seals[j]);
            }
            return sealOf(v) == product;
        }

        /** What m WEIGHS at x among a set of MEMBERS. */
        static int weight(int m, int set, int x) {
            int above = 1;
            int below = 1;
            for (int k = 1; k <= MEMBERS; k++) {
                if (k != m && Sets.has(set, k)) {
                    above = times(above, less(x, k));
                    below = times(below, less(m, k));
                }
            }
            return times(above, inverse(below));
        }

        /** The VALUES of a set of MEMBERS, each times what it WEIGHS at x, added. */
        static int weighed(int[] valuesOfMembers, int set, int x) {
            int sum = 0;
            for (int m = 1; m <= MEMBERS && m < valuesOfMembers.length; m++) {
                if (Sets.has(set, m)) {
                    sum = plus(sum, times(valuesOfMembers[m], weight(m, set, x)));
                }
            }
            return sum;
        }
    }

    /** THE TEXT. */
    private static final class Script {
        private final int[] signs;
        private int length;

        Script() {
            signs = new int[SIGNS];
            length = 0;
        }

        boolean append(int sign) {
            if (length < 0 || length >= SIGNS) {
                return false;
            }
            signs[length] = sign;
            length++;
            return true;
        }

        int signAt(int place) {
            return place >= 0 && place < length && place < SIGNS ? signs[place] : 0;
        }

        int letter() {
            return signAt(0);
        }

        int figureAt(int place) {
            return signAt(place) - '0';
        }

        int faultPlace() {
            for (int place = 0; place < length; place++) {
                if (!canStand(place)) {
                    return place;
                }
            }
            return length < fewestSigns() ? length : NONE;
        }

        /** The set of MEMBERS that is told behind the letter, or behind the figure that comes first. */
        int members() {
            int set = 0;
            for (int place = firstOfSet(); place < length; place++) {
                if (isMember(figureAt(place))) {
                    set |= Sets.only(figureAt(place));
                }
            }
            return set;
        }

        /** Whether a sign can stand at its place, if all before it can. */
        private boolean canStand(int place) {
            if (place == 0) {
                return isLetter(letter());
            }
            int figure = figureAt(place);
            if (place >= firstOfSet()) {
                return isMember(figure) && (place == firstOfSet() || figure > figureAt(place - 1));
            }
            if (place > 1 || letter() == 'f') {
                return false;
            }
            boolean isThreshold = letter() == 'd' || letter() == 't';
            return isThreshold ? figure >= 1 && figure <= ROW_LENGTH : isMember(figure);
        }

        /** Where the rising MEMBERS begin; behind all signs, if the letter wants none. */
        private int firstOfSet() {
            switch (letter()) {
                case 'o':
                    return 1;
                case 'b':
                case 't':
                    return 2;
                default:
                    return SIGNS;
            }
        }

        private int fewestSigns() {
            switch (letter()) {
                case 'f':
                    return 1;
                case 'b':
                case 't':
                    return 3;
                default:
                    return 2;
            }
        }

        private static boolean isLetter(int sign) {
            switch (sign) {
                case 'd':
                case 'f':
                case 'o':
                case 'w':
                case 'b':
                case 't':
                case 's':
                    return true;
                default:
                    return false;
            }
        }
    }

    /** What was stolen, in the order of the thefts. */
    private static final class Loot {
        private final int[] members;
        private final int[] epochs;
        private final int[] shares;
        private int size;

        Loot() {
            members = new int[LOOTS];
            epochs = new int[LOOTS];
            shares = new int[LOOTS];
            size = 0;
        }

        void copyFrom(Loot other) {
            System.arraycopy(other.members, 0, members, 0, LOOTS);
            System.arraycopy(other.epochs, 0, epochs, 0, LOOTS);
            System.arraycopy(other.shares, 0, shares, 0, LOOTS);
            size = other.size;
        }

        boolean isFull() {
            return size < 0 || size >= LOOTS;
        }

        void add(int m, int epoch, int share) {
            if (isFull()) {
                return;
            }
            members[size] = m;
            epochs[size] = epoch;
            shares[size] = share;
            size++;
        }

        /** The set of MEMBERS whose SHARES were stolen in an EPOCH, or ever. */
        int victims(int epoch) {
            int set = 0;
            for (int i = 0; i < size && i < LOOTS; i++) {
                if (epoch == ANY_EPOCH || epochs[i] == epoch) {
                    set |= Sets.only(members[i]);
                }
            }
            return set;
        }

        /** The SHARE in the first LOOT of a MEMBER in an EPOCH, or ever; 0 if there is none. */
        int firstShare(int m, int epoch) {
            for (int i = 0; i < size && i < LOOTS; i++) {
                if (members[i] == m && (epoch == ANY_EPOCH || epochs[i] == epoch)) {
                    return shares[i];
                }
            }
            return 0;
        }
    }

    /** All that an IMAGE keeps. */
    private static final class Circle {
        private final int[] rows;
        private final int[] bends;
        private final int[] shares;
        private final int[] seals;
        private final int[] thresholds;
        private final Loot stolen;
        private int holders;
        private int threshold;
        private int epoch;
        private int liars;
        private int struck;
        private int ordersDone;

        Circle() {
            rows = new int[(MEMBERS + 1) * ROW_LENGTH];
            bends = new int[(MEMBERS + 1) * BENDS];
            shares = new int[MEMBERS + 1];
            seals = new int[ROW_LENGTH];
            thresholds = new int[EPOCHS];
            stolen = new Loot();
            holders = 0;
            threshold = 0;
            epoch = -1;
            liars = 0;
            struck = 0;
            ordersDone = 0;
            for (int m = 1; m <= MEMBERS; m++) {
                bends[m * BENDS + ANSWERS] = 1;
            }
        }

        void copyFrom(Circle other) {
            System.arraycopy(other.rows, 0, rows, 0, rows.length);
            System.arraycopy(other.bends, 0, bends, 0, bends.length);
            System.arraycopy(other.shares, 0, shares, 0, shares.length);
            System.arraycopy(other.seals, 0, seals, 0, seals.length);
            System.arraycopy(other.thresholds, 0, thresholds, 0, thresholds.length);
            stolen.copyFrom(other.stolen);
            holders = other.holders;
            threshold = other.threshold;
            epoch = other.epoch;
            liars = other.liars;
            struck = other.struck;
            ordersDone = other.ordersDone;
        }

        boolean isDealt() {
            return epoch >= 0;
        }

        boolean isLastEpoch() {
            return epoch >= EPOCHS - 1;
        }

        boolean wasEpoch(int e) {
            return e >= 0 && e <= epoch && e < EPOCHS;
        }

        int thresholdOf(int e) {
            return wasEpoch(e) ? thresholds[e] : 0;
        }

        void beginEpoch(int newThreshold) {
            if (!isLastEpoch()) {
                epoch++;
                threshold = newThreshold;
                thresholds[epoch] = newThreshold;
            }
        }

        int bend(int m, int what) {
            return bends[m * BENDS + what];
        }

        int tells(int m) {
            return Sums.plus(shares[m], bend(m, LIE));
        }

        /** The first EPOCH of which enough was stolen to open it, or NONE. */
        int firstLostEpoch() {
            // EPOCHS only rise, so the first LOOT of such an EPOCH is of the first such EPOCH
            for (int i = 0; i < stolen.size && i < LOOTS; i++) {
                int e = stolen.epochs[i];
                if (Integer.bitCount(stolen.victims(e)) >= thresholdOf(e)) {
                    return e;
                }
            }
            return NONE;
        }
    }

    /** Does the ORDERS to a circle, and reckons what a thief could; its rows serve one call at a time. */
    private static final class Orders {
        private final Circle circle;
        /** For each MEMBER a VALUE: what it TELLS, or what was stolen of it. */
        private final int[] told;
        /** For each MEMBER the POLYNOMIAL that it SPREADS. */
        private final int[] polynomials;
        private final int[] sealsSent;
        /** For each MEMBER how often its POLYNOMIAL counts. */
        private final int[] factors;
        private int taken;

        Orders() {
            circle = new Circle();
            told = new int[MEMBERS + 1];
            polynomials = new int[(MEMBERS + 1) * ROW_LENGTH];
            sealsSent = new int[ROW_LENGTH];
            factors = new int[MEMBERS + 1];
            taken = 0;
        }

        /** Does what a text without a FAULT tells. */
        int perform(Script script) {
            circle.liars = 0;
            circle.struck = 0;
            int letter = script.letter();
            if (letter != 'd' && !circle.isDealt()) {
                return STATE;
            }
            if (isFull(letter)) {
                return FULL;
            }
            int figure = script.figureAt(1);
            int set = script.members();
            switch (letter) {
                case 'd':
                    return deal(figure);
                case 'f':
                    return fresh();
                case 'o':
                    return openedByThose(set, 0);
                case 'w':
                    return lose(figure);
                case 'b':
                    return rebuild(figure, set);
                case 't':
                    return move(figure, set);
                case 's':
                    return steal(figure);
                default:
                    return FAULT;
            }
        }

        private boolean isFull(int letter) {
            switch (letter) {
                case 'd':
                case 'f':
                case 't':
                    return circle.isLastEpoch();
                case 's':
                    return circle.stolen.isFull();
                default:
                    return false;
            }
        }

        private int deal(int threshold) {
            for (int j = 0; j < threshold && j < ROW_LENGTH; j++) {
                circle.seals[j] = Sums.sealOf(circle.rows[DEALER * ROW_LENGTH + j]);
            }
            for (int m = 1; m <= MEMBERS; m++) {
                circle.shares[m] = polynomialAt(circle.rows, DEALER, threshold, m);
            }
            circle.holders = MEMBER_BITS;
            circle.beginEpoch(threshold);
            return 1;
        }

        private int lose(int m) {
            circle.holders &= ~Sets.only(m);
            return Integer.bitCount(circle.holders);
        }

        /** What those of a set that have a SHARE TELL, WEIGHED at a number; or NO. LIARS are named. */
        private int openedByThose(int set, int at) {
            int tellers = set & circle.holders;
            for (int m = 1; m <= MEMBERS; m++) {
                if (Sets.has(tellers, m)) {
                    hear(m);
                }
            }
            int honest = tellers & ~circle.liars;
            if (Integer.bitCount(honest) < circle.threshold) {
                return NO;
            }
            return Sums.weighed(told, Sets.lowest(honest, circle.threshold), at);
        }

        /** Takes down what a MEMBER TELLS: whether it FITS; if not, it is named as a LIAR. */
        private boolean hear(int m) {
            told[m] = circle.tells(m);
            if (Sums.fitting(told[m], m, circle.seals, circle.threshold)) {
                return true;
            }
            circle.liars |= Sets.only(m);
            return false;
        }

        private int rebuild(int m, int set) {
            if (!isMember(m) || Sets.has(circle.holders, m)) {
                return NO;
            }
            int share = openedByThose(set, m);
            if (share < 0) {
                return share;
            }
            circle.shares[m] = share;
            circle.holders |= Sets.only(m);
            return 1;
        }

        private int steal(int m) {
            if (!isMember(m) || !Sets.has(circle.holders, m)) {
                return NO;
            }
            circle.stolen.add(m, circle.epoch, circle.shares[m]);
            return circle.stolen.size;
        }

        private int fresh() {
            int threshold = circle.threshold;
            taken = 0;
            for (int m = 1; m <= MEMBERS; m++) {
                if (Sets.has(circle.holders, m)) {
                    offer(m, 0, threshold);
                    factors[m] = 1;
                }
            }
            pourTaken(threshold);
            return closeEpoch(threshold);
        }

        private int move(int newThreshold, int set) {
            int threshold = circle.threshold;
            int askedFor = set & circle.holders;
            taken = 0;
            for (int m = 1; m <= MEMBERS && Integer.bitCount(taken) < threshold; m++) {
                if (Sets.has(askedFor, m) && hear(m)) {
                    offer(m, told[m], newThreshold);
                }
            }
            if (Integer.bitCount(taken) < threshold) {
                return NO;
            }
            for (int m = 1; m <= MEMBERS; m++) {
                factors[m] = Sums.weight(m, taken, 0);
            }
            // what was shared till now lives on in the POLYNOMIALS alone
            Arrays.fill(circle.shares, 0);
            Arrays.fill(circle.seals, 1);
            pourTaken(newThreshold);
            return closeEpoch(newThreshold);
        }

        /** SPREADS the POLYNOMIAL of a first VALUE and m's ROW; m is TAKEN or STRUCK. */
        private void offer(int m, int first, int length) {
            int from = m * ROW_LENGTH;
            for (int j = 0; j < length && j < ROW_LENGTH; j++) {
                polynomials[from + j] = j == 0 ? first : circle.rows[from + j];
                sealsSent[j] = Sums.sealOf(polynomials[from + j]);
            }
            int complaining = 0;
            int mistaken = 0;
            for (int i = 1; i <= MEMBERS; i++) {
                if (Sets.has(circle.holders, i)) {
                    boolean right = Sums.fitting(sent(m, i, length), i, sealsSent, length);
                    if (!right || circle.bend(i, GRUDGE) == m) {
                        complaining |= Sets.only(i);
                        mistaken |= right ? Sets.only(i) : 0;
                    }
                }
            }
            if (complaining != 0 && circle.bend(m, ANSWERS) == 0) {
                circle.struck |= Sets.only(m);
            } else {
                circle.liars |= mistaken;
                taken |= Sets.only(m);
            }
        }

        private int sent(int m, int i, int length) {
            int slip = circle.bend(m, FOE) == i ? circle.bend(m, SLIP) : 0;
            return Sums.plus(polynomialAt(polynomials, m, length, i), slip);
        }

        /** Adds to SHARES and SEALS all POLYNOMIALS that are TAKEN, each times its factor. */
        private void pourTaken(int length) {
            for (int m = 1; m <= MEMBERS; m++) {
                if (Sets.has(taken, m)) {
                    pour(m, length);
                }
            }
        }

        private void pour(int m, int length) {
            for (int i = 1; i <= MEMBERS; i++) {
                if (Sets.has(circle.holders, i)) {
                    int part = Sums.times(factors[m], polynomialAt(polynomials, m, length, i));
                    circle.shares[i] = Sums.plus(circle.shares[i], part);
                }
            }
            for (int j = 0; j < length && j < ROW_LENGTH; j++) {
                int part = Sums.raised(Sums.sealOf(polynomials[m * ROW_LENGTH + j]), factors[m]);
                circle.seals[j] = Sums.joined(circle.seals[j], part);
            }
        }

        private int closeEpoch(int newThreshold) {
            circle.beginEpoch(newThreshold);
            circle.holders &= ~circle.struck;
            return Integer.bitCount(circle.holders);
        }

        /** What the POLYNOMIAL that stands in a table of rows comes to at a number. */
        private static int polynomialAt(int[] table, int which, int length, int at) {
            int sum = 0;
            for (int j = Math.min(length, ROW_LENGTH) - 1; j >= 0; j--) {
                int place = which * ROW_LENGTH + j;
                int value = place >= 0 && place < table.length ? table[place] : 0;
                sum = Sums.plus(Sums.times(sum, at), value);
            }
            return sum;
        }

        /** What the first so many MEMBERS' LOOT of an EPOCH comes to at 0; NONE if there are fewer. */
        int opened(int epoch, int needed) {
            int victims = circle.stolen.victims(epoch);
            if (Integer.bitCount(victims) < needed) {
                return NONE;
            }
            int chosen = Sets.lowest(victims, needed);
            for (int m = 1; m <= MEMBERS; m++) {
                told[m] = circle.stolen.firstShare(m, epoch);
            }
            return Sums.weighed(told, chosen, 0);
        }

        /** How many POLYNOMIALS of an EPOCH that begin with v fit the LOOT of it. */
        int worldsLeft(int epoch, int v) {
            int threshold = circle.thresholdOf(epoch);
            int known = Integer.bitCount(circle.stolen.victims(epoch));
            if (known >= threshold) {
                // all SHARES of an EPOCH are of one POLYNOMIAL, so those that open it tell for the others
                return opened(epoch, threshold) == v ? 1 : 0;
            }
            int worlds = 1;
            for (int free = known + 1; free < threshold; free++) {
                worlds *= VALUES;
            }
            return worlds;
        }
    }
}
