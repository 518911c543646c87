import java.math.BigInteger;
import java.util.ArrayList;
import java.util.Arrays;
import java.util.List;
import java.util.Random;
import java.util.TreeMap;
import java.util.TreeSet;

/** Long runs of calls, chosen by a fixed seed, against a slow program that follows the document word by word. */
public final class ModelTest {
    private static final int RUNS = 400;
    private static final int CALLS = 512;
    private static final int[] ODD = {Integer.MIN_VALUE, -33, -2, -1, 5, 8, 9, 23, 24, 31, 32, 33, 200, Integer.MAX_VALUE};

    private static int wrong = 0;

    public static void main(String[] args) {
        for (int run = 0; run < RUNS && wrong == 0; run++) {
            play(run);
        }
        System.out.println(wrong == 0 ? "class and model agree" : wrong + " answers differ");
        if (wrong != 0) {
            System.exit(1);
        }
    }

    private static void play(int run) {
        Random random = new Random(run);
        FreshShares x = new FreshShares();
        Model model = new Model();
        List<String> history = new ArrayList<>();
        int calls = 0;
        while (calls < CALLS && wrong == 0) {
            for (int[] call : next(random, run)) {
                if (calls++ < CALLS && wrong == 0) {
                    int got = call(x, call);
                    int want = model.call(call);
                    history.add(name(call) + " answered " + got);
                    if (got != want) {
                        wrong++;
                        history.forEach(System.out::println);
                        System.out.println("run " + run + ": due is " + want);
                    }
                }
            }
        }
    }

    private static final String[] NAMES = {"row", "bent", "member", "say", "wipe", "fault", "act", "named", "fits", "seal",
        "weighs", "loot", "worlds", "thief", "image", "restore", "count"};

    private static String name(int[] call) {
        return NAMES[call[0]] + Arrays.toString(Arrays.copyOfRange(call, 1, call.length));
    }

    private static int call(FreshShares x, int[] c) {
        switch (c[0]) {
            case 0: return x.row(c[1], c[2], c[3]);
            case 1: return x.bent(c[1], c[2], c[3]);
            case 2: return x.member(c[1], c[2]);
            case 3: return x.say(c[1]);
            case 4: return x.wipe();
            case 5: return x.fault();
            case 6: return x.act();
            case 7: return x.named(c[1]);
            case 8: return x.fits(c[1], c[2]);
            case 9: return x.seal(c[1]);
            case 10: return x.weighs(c[1], c[2], c[3]);
            case 11: return x.loot(c[1], c[2]);
            case 12: return x.worlds(c[1], c[2]);
            case 13: return x.thief(c[1]);
            case 14: return x.image(c[1]);
            case 15: return x.restore(c[1]);
            default: return x.count(c[1]);
        }
    }

    /** A number from low to high; now and then one that is no such number. */
    private static int pick(Random random, int low, int high) {
        return random.nextInt(40) == 0 ? ODD[random.nextInt(ODD.length)] : low + random.nextInt(high - low + 1);
    }

    private static int[][] next(Random random, int run) {
        int kind = random.nextInt(100);
        if (kind < 45) {
            return order(random, run);
        }
        if (kind < 55) {
            return new int[][] {{0, pick(random, 0, 7), pick(random, 0, 4), pick(random, 0, 22)}};
        }
        if (kind < 65) {
            int what = pick(random, 0, 4);
            int highest = what == 4 ? 1 : what == 2 || what == 3 ? 7 : 22;
            // most LIES are 0, so that orders are done, too
            int n = what == 0 && random.nextInt(3) > 0 ? 0 : pick(random, 0, highest);
            return new int[][] {{1, pick(random, 1, 7), what, n}};
        }
        if (kind < 72) {
            return new int[][] {{2, pick(random, 1, 7), pick(random, 0, 14)}};
        }
        switch (kind) {
            case 72: return new int[][] {{3, pick(random, 33, 126)}};
            case 73: return new int[][] {{4}};
            case 74: case 75: return new int[][] {{5}};
            case 76: case 77: return new int[][] {{8, pick(random, 0, 22), pick(random, 0, 22)}};
            case 78: case 79: return new int[][] {{9, pick(random, 0, 5)}};
            case 80: case 81: return new int[][] {{10, pick(random, 1, 7), pick(random, 0, 127) * 2, pick(random, 0, 22)}};
            case 82: case 83: return new int[][] {{11, pick(random, 0, 24), pick(random, 0, 2)}};
            case 84: return new int[][] {{12, pick(random, 0, 20), pick(random, 0, 22)}};
            case 85: case 86: case 87: return new int[][] {{13, pick(random, 0, 2)}};
            case 88: case 89: return new int[][] {{14, pick(random, 0, 1)}};
            case 90: case 91: return new int[][] {{15, pick(random, 0, 1)}, {7, 0}, {7, 1}, {16, pick(random, 10, 16)}};
            default: return new int[][] {{16, pick(random, 0, 16)}};
        }
    }

    /** Calls that say a text, most of them without a FAULT, act, and ask who is named. */
    private static int[][] order(Random random, int run) {
        String text = text(random, run);
        List<int[]> calls = new ArrayList<>();
        if (random.nextInt(4) > 0) {
            calls.add(new int[] {4});
        }
        for (int i = 0; i < text.length(); i++) {
            calls.add(new int[] {3, random.nextInt(100) == 0 ? pick(random, 33, 126) : text.charAt(i)});
        }
        if (random.nextInt(6) == 0) {
            calls.add(new int[] {5});
        }
        calls.add(new int[] {6});
        calls.add(new int[] {7, pick(random, 0, 1)});
        return calls.toArray(new int[0][]);
    }

    private static String text(Random random, int run) {
        // runs of one kind of order come to the limits that mixed runs do not
        if (run % 10 == 1 && random.nextInt(4) > 0) {
            return "s" + (1 + random.nextInt(7));
        }
        if (run % 10 == 2 && random.nextInt(30) > 0) {
            return "f";
        }
        int n = 1 + random.nextInt(5);
        int m = 1 + random.nextInt(7);
        switch (random.nextInt(16)) {
            case 0: return "d" + n;
            case 1: case 2: case 3: return "f";
            case 4: case 5: return "o" + members(random);
            case 6: return "w" + m;
            case 7: case 8: case 9: return "b" + m + members(random);
            case 10: case 11: case 12: return "t" + n + members(random);
            default: return "s" + m;
        }
    }

    private static String members(Random random) {
        StringBuilder text = new StringBuilder();
        int odds = 2 + random.nextInt(5);
        for (int m = 1; m <= 7; m++) {
            if (random.nextInt(odds) > 0) {
                text.append(m);
            }
        }
        return text.length() == 0 ? "4" : text.toString();
    }

    /** Every text that tells an ORDER. */
    private static final TreeSet<String> TEXTS = texts();

    private static TreeSet<String> texts() {
        TreeSet<String> all = new TreeSet<>();
        all.add("f");
        for (int n = 1; n <= 5; n++) {
            all.add("d" + n);
        }
        for (int m = 1; m <= 7; m++) {
            all.add("w" + m);
            all.add("s" + m);
        }
        for (int set = 1; set < 128; set++) {
            StringBuilder rising = new StringBuilder();
            for (int m = 1; m <= 7; m++) {
                if ((set >> m - 1 & 1) != 0) {
                    rising.append(m);
                }
            }
            all.add("o" + rising);
            for (int m = 1; m <= 7; m++) {
                all.add("b" + m + rising);
            }
            for (int n = 1; n <= 5; n++) {
                all.add("t" + n + rising);
            }
        }
        return all;
    }

    private static boolean begins(String text) {
        String next = TEXTS.ceiling(text);
        return next != null && next.startsWith(text);
    }

    private static final BigInteger P = BigInteger.valueOf(23), Q = BigInteger.valueOf(47), FOUR = BigInteger.valueOf(4);

    private static int sealOf(int v) {
        return FOUR.modPow(BigInteger.valueOf(v), Q).intValue();
    }

    private static int at(int[] polynomial, int i) {
        BigInteger sum = BigInteger.ZERO;
        for (int j = 0; j < polynomial.length; j++) {
            sum = sum.add(BigInteger.valueOf(polynomial[j]).multiply(BigInteger.valueOf(i).pow(j)));
        }
        return sum.mod(P).intValue();
    }

    private static int[] sealsOf(int[] polynomial) {
        return Arrays.stream(polynomial).map(ModelTest::sealOf).toArray();
    }

    private static boolean fitting(int v, int[] seals, int i) {
        BigInteger product = BigInteger.ONE;
        for (int j = 0; j < seals.length; j++) {
            product = product.multiply(BigInteger.valueOf(seals[j]).pow((int) Math.pow(i, j) % 23)).mod(Q);
        }
        return product.intValue() == sealOf(v);
    }

    private static int weight(int m, List<Integer> all, int x) {
        BigInteger product = BigInteger.ONE;
        for (int k : all) {
            if (k != m) {
                product = product.multiply(BigInteger.valueOf(x - k))
                        .multiply(BigInteger.valueOf(m - k).modInverse(P)).mod(P);
            }
        }
        return product.intValue();
    }

    private static int weighed(List<Integer> members, List<Integer> values, int x) {
        int sum = 0;
        for (int k = 0; k < members.size(); k++) {
            sum += values.get(k) * weight(members.get(k), members, x);
        }
        return sum % 23;
    }

    private static final class Model {
        String text = "";
        World now = new World();
        final World[] images = new World[2];

        int call(int[] c) {
            switch (c[0]) {
                case 0: return row(c[1], c[2], c[3]);
                case 1: return bent(c[1], c[2], c[3]);
                case 2: return member(c[1], c[2]);
                case 3: return say(c[1]);
                case 4: return wipe();
                case 5: return fault();
                case 6: return act();
                case 7: return c[1] < 0 || c[1] > 1 ? -2 : bits(c[1] == 0 ? now.liars : now.struck);
                case 8: return fits(c[1], c[2]);
                case 9: return now.seals == null ? -3 : c[1] < 0 || c[1] >= now.seals.length ? -6 : now.seals[c[1]];
                case 10: return weighs(c[1], c[2], c[3]);
                case 11: return loot(c[1], c[2]);
                case 12: return worlds(c[1], c[2]);
                case 13: return thief(c[1]);
                case 14: return image(c[1]);
                case 15: return restore(c[1]);
                default: return count(c[1]);
            }
        }

        int row(int who, int j, int v) {
            if (who < 0 || who > 7) {
                return -1;
            }
            if (j < 0 || j > 4 || v < 0 || v > 22) {
                return -2;
            }
            int before = now.rows[who][j];
            now.rows[who][j] = v;
            return before;
        }

        int bent(int m, int what, int n) {
            if (m < 1 || m > 7) {
                return -1;
            }
            int[] highest = {22, 22, 7, 7, 1};
            if (what < 0 || what > 4 || n < 0 || n > highest[what]) {
                return -2;
            }
            int[][] kinds = {now.lie, now.slip, now.foe, now.grudge, now.answers};
            int before = kinds[what][m];
            kinds[what][m] = n;
            return before;
        }

        int member(int m, int what) {
            if (m < 1 || m > 7) {
                return -1;
            }
            switch (what) {
                case 0: return now.share[m] == null ? -6 : now.share[m];
                case 1: return now.share[m] == null ? -6 : now.tells(m);
                case 2: return now.share[m] == null ? -6 : fitting(now.tells(m), now.seals, m) ? 1 : 0;
                case 3: return now.lie[m];
                case 4: return now.slip[m];
                case 5: return now.foe[m];
                case 6: return now.grudge[m];
                case 7: return now.answers[m];
                case 10: case 11: case 12: case 13: case 14: return now.rows[m][what - 10];
                default: return -2;
            }
        }

        int say(int sign) {
            if (sign < 33 || sign > 126) {
                return -2;
            }
            if (text.length() == 10) {
                return -4;
            }
            text += (char) sign;
            return text.length();
        }

        int wipe() {
            int before = text.length();
            text = "";
            return before;
        }

        int fault() {
            for (int n = 1; n <= text.length(); n++) {
                if (!begins(text.substring(0, n))) {
                    return n - 1;
                }
            }
            return TEXTS.contains(text) ? -6 : text.length();
        }

        int act() {
            if (!TEXTS.contains(text)) {
                return -7;
            }
            World next = now.copy();
            int answer = next.order(text);
            if (answer < 0) {
                now.liars = next.liars;
                now.struck = next.struck;
                return answer;
            }
            now = next;
            now.done++;
            text = "";
            return answer;
        }

        int fits(int v, int i) {
            if (v < 0 || v > 22 || i < 0 || i > 22) {
                return -2;
            }
            return now.seals == null ? -3 : fitting(v, now.seals, i) ? 1 : 0;
        }

        int weighs(int m, int set, int x) {
            if (x < 0 || x > 22 || set < 0 || set > 255 || set % 2 == 1) {
                return -2;
            }
            List<Integer> all = new ArrayList<>();
            for (int k = 1; k <= 7; k++) {
                if ((set >> k & 1) == 1) {
                    all.add(k);
                }
            }
            return all.contains(m) ? weight(m, all, x) : -1;
        }

        int loot(int i, int what) {
            if (what < 0 || what > 2) {
                return -2;
            }
            return i < 0 || i >= now.loot.size() ? -6 : now.loot.get(i)[what];
        }

        int worlds(int epoch, int v) {
            if (v < 0 || v > 22 || epoch < 0 || epoch >= now.thresholds.size()) {
                return -2;
            }
            int n = now.thresholds.get(epoch);
            int many = (int) Math.round(Math.pow(23, n - 1));
            int fit = 0;
            for (int k = 0; k < many; k++) {
                fit += stolenFrom(epoch, v, k) ? 1 : 0;
            }
            return fit;
        }

        /** Whether all that was stolen in an EPOCH is of the POLYNOMIAL of v and the figures of k. */
        private boolean stolenFrom(int epoch, int v, int k) {
            for (int[] one : now.loot) {
                if (one[1] == epoch) {
                    int sum = v;
                    int power = one[0];
                    for (int rest = k; rest > 0; rest /= 23) {
                        sum += rest % 23 * power;
                        power = power * one[0] % 23;
                    }
                    if (sum % 23 != one[2]) {
                        return false;
                    }
                }
            }
            return true;
        }

        int thief(int what) {
            if (what < 0 || what > 2) {
                return -2;
            }
            if (now.seals == null) {
                return -3;
            }
            if (what == 2) {
                TreeMap<Integer, Integer> first = new TreeMap<>();
                now.loot.forEach(one -> first.putIfAbsent(one[0], one[2]));
                return come(first, now.seals.length);
            }
            for (int e = 0; e < now.thresholds.size(); e++) {
                int epoch = e;
                TreeMap<Integer, Integer> of = new TreeMap<>();
                now.loot.stream().filter(one -> one[1] == epoch).forEach(one -> of.put(one[0], one[2]));
                if (of.size() >= now.thresholds.get(e)) {
                    return what == 0 ? e : come(of, now.thresholds.get(e));
                }
            }
            return -6;
        }

        private int come(TreeMap<Integer, Integer> loot, int n) {
            if (loot.size() < n) {
                return -6;
            }
            return weighed(new ArrayList<>(loot.keySet()).subList(0, n), new ArrayList<>(loot.values()).subList(0, n), 0);
        }

        int image(int k) {
            if (k < 0 || k > 1) {
                return -2;
            }
            images[k] = now.copy();
            return 1;
        }

        int restore(int k) {
            if (k < 0 || k > 1) {
                return -2;
            }
            if (images[k] == null) {
                return -5;
            }
            now = images[k].copy();
            return 1;
        }

        int count(int what) {
            switch (what) {
                case 0: return now.seals == null ? -6 : now.seals.length;
                case 1: return now.seals == null ? -6 : now.thresholds.size() - 1;
                case 2: return now.having().size();
                case 3: return bits(now.having());
                case 4: return now.loot.size();
                case 5: return now.done;
                case 6: return text.length();
                case 7: return (images[0] == null ? 0 : 1) + (images[1] == null ? 0 : 2);
                default:
                    long e = (long) what - 10;
                    return e < 0 || e >= now.thresholds.size() ? -2 : now.thresholds.get((int) e);
            }
        }

        private static int bits(Iterable<Integer> set) {
            int bits = 0;
            for (int m : set) {
                bits |= 1 << m;
            }
            return bits;
        }
    }

    private static final class World {
        int[][] rows = new int[8][5];
        int[] lie = new int[8], slip = new int[8], foe = new int[8], grudge = new int[8];
        int[] answers = {0, 1, 1, 1, 1, 1, 1, 1};
        Integer[] share = new Integer[8];
        int[] seals;
        List<Integer> thresholds = new ArrayList<>();
        List<int[]> loot = new ArrayList<>();
        TreeSet<Integer> liars = new TreeSet<>(), struck = new TreeSet<>();
        int done;

        World copy() {
            World w = new World();
            for (int who = 0; who < 8; who++) {
                w.rows[who] = rows[who].clone();
            }
            w.lie = lie.clone();
            w.slip = slip.clone();
            w.foe = foe.clone();
            w.grudge = grudge.clone();
            w.answers = answers.clone();
            w.share = share.clone();
            w.seals = seals == null ? null : seals.clone();
            w.thresholds = new ArrayList<>(thresholds);
            w.loot = new ArrayList<>(loot);
            w.liars = new TreeSet<>(liars);
            w.struck = new TreeSet<>(struck);
            w.done = done;
            return w;
        }

        int tells(int m) {
            return (share[m] + lie[m]) % 23;
        }

        List<Integer> having() {
            List<Integer> all = new ArrayList<>();
            for (int m = 1; m <= 7; m++) {
                if (share[m] != null) {
                    all.add(m);
                }
            }
            return all;
        }

        /** What is refused may leave this World changed: it is thrown away then, but for who is named. */
        int order(String text) {
            liars.clear();
            struck.clear();
            char letter = text.charAt(0);
            if (letter != 'd' && seals == null) {
                return -3;
            }
            if ("dft".indexOf(letter) >= 0 && thresholds.size() == 200 || letter == 's' && loot.size() == 24) {
                return -4;
            }
            int n = letter == 'f' ? 0 : text.charAt(1) - '0';
            switch (letter) {
                case 'd': return deal(n);
                case 'f': return fresh();
                case 'o': return open(named(text, 1), 0);
                case 'w': share[n] = null; return having().size();
                case 'b': return rebuild(n, named(text, 2));
                case 't': return move(n, named(text, 2));
                default: return steal(n);
            }
        }

        private static List<Integer> named(String text, int from) {
            List<Integer> all = new ArrayList<>();
            text.substring(from).chars().forEach(c -> all.add(c - '0'));
            return all;
        }

        int deal(int n) {
            int[] polynomial = Arrays.copyOf(rows[0], n);
            seals = sealsOf(polynomial);
            for (int m = 1; m <= 7; m++) {
                share[m] = at(polynomial, m);
            }
            thresholds.add(n);
            return 1;
        }

        int open(List<Integer> set, int x) {
            List<Integer> members = new ArrayList<>();
            List<Integer> values = new ArrayList<>();
            for (int m : set) {
                if (share[m] != null) {
                    if (!fitting(tells(m), seals, m)) {
                        liars.add(m);
                    } else if (members.size() < seals.length) {
                        members.add(m);
                        values.add(tells(m));
                    }
                }
            }
            return members.size() < seals.length ? -5 : weighed(members, values, x);
        }

        int rebuild(int m, List<Integer> set) {
            if (share[m] != null) {
                return -5;
            }
            int made = open(set, m);
            if (made < 0) {
                return -5;
            }
            share[m] = made;
            return 1;
        }

        int steal(int m) {
            if (share[m] == null) {
                return -5;
            }
            loot.add(new int[] {m, thresholds.size() - 1, share[m]});
            return loot.size();
        }

        /** Whether m is TAKEN. */
        boolean spread(int m, int[] polynomial) {
            TreeSet<Integer> wrongly = new TreeSet<>();
            boolean any = false;
            for (int i : having()) {
                int sent = at(polynomial, i);
                if (foe[m] == i) {
                    sent = (sent + slip[m]) % 23;
                }
                boolean fit = fitting(sent, sealsOf(polynomial), i);
                if (!fit || grudge[i] == m) {
                    any = true;
                    if (fit) {
                        wrongly.add(i);
                    }
                }
            }
            if (any && answers[m] == 0) {
                struck.add(m);
                return false;
            }
            liars.addAll(wrongly);
            return true;
        }

        int fresh() {
            int n = seals.length;
            TreeMap<Integer, int[]> taken = new TreeMap<>();
            for (int m : having()) {
                int[] polynomial = Arrays.copyOf(rows[m], n);
                polynomial[0] = 0;
                if (spread(m, polynomial)) {
                    taken.put(m, polynomial);
                }
            }
            for (int[] polynomial : taken.values()) {
                for (int j = 0; j < n; j++) {
                    seals[j] = seals[j] * sealOf(polynomial[j]) % 47;
                }
                for (int i : having()) {
                    share[i] = (share[i] + at(polynomial, i)) % 23;
                }
            }
            return end(n);
        }

        int move(int n, List<Integer> set) {
            TreeMap<Integer, int[]> taken = new TreeMap<>();
            for (int m : set) {
                if (share[m] != null && taken.size() < seals.length) {
                    int[] polynomial = Arrays.copyOf(rows[m], n);
                    polynomial[0] = tells(m);
                    if (!fitting(polynomial[0], seals, m)) {
                        liars.add(m);
                    } else if (spread(m, polynomial)) {
                        taken.put(m, polynomial);
                    }
                }
            }
            if (taken.size() < seals.length) {
                return -5;
            }
            List<Integer> those = new ArrayList<>(taken.keySet());
            for (int i : having()) {
                int sum = 0;
                for (int m : those) {
                    sum += at(taken.get(m), i) * weight(m, those, 0);
                }
                share[i] = sum % 23;
            }
            seals = new int[n];
            for (int j = 0; j < n; j++) {
                BigInteger product = BigInteger.ONE;
                for (int m : those) {
                    product = product.multiply(BigInteger.valueOf(sealOf(taken.get(m)[j])).pow(weight(m, those, 0))).mod(Q);
                }
                seals[j] = product.intValue();
            }
            return end(n);
        }

        private int end(int n) {
            thresholds.add(n);
            for (int m : struck) {
                share[m] = null;
            }
            return having().size();
        }
    }
}
