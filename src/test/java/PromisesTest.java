import java.lang.reflect.Constructor;
import java.lang.reflect.Field;
import java.lang.reflect.Method;
import java.lang.reflect.Modifier;
import java.util.Arrays;
import java.util.TreeSet;

/** For each promise of the document: ordinary inputs, its edges, and wrong inputs. */
public final class PromisesTest {
    private static final int UNKNOWN = -1, OUTSIDE = -2, STATE = -3, FULL = -4, NO = -5, NONE = -6, FAULT = -7;
    private static final int LOW = Integer.MIN_VALUE, HIGH = Integer.MAX_VALUE;

    private static int wrong = 0;

    public static void main(String[] args) {
        face();
        newObject();
        row();
        bent();
        member();
        say();
        wipe();
        fault();
        actDeal();
        actWipe();
        actOpen();
        actRebuild();
        actFresh();
        actSpread();
        actMove();
        actSteal();
        actRefused();
        actAtLastEpoch();
        named();
        fits();
        seal();
        weighs();
        loot();
        worlds();
        thief();
        image();
        restore();
        restoreAmongTwo();
        count();
        System.out.println(wrong == 0 ? "all promises hold" : wrong + " answers are not as due");
        if (wrong != 0) {
            System.exit(1);
        }
    }

    private static void due(String what, int want, int got) {
        if (got != want) {
            wrong++;
            System.out.println(what + " answered " + got + ", due is " + want);
        }
    }

    private static int at(int i, int... values) {
        int sum = 0;
        for (int j = values.length - 1; j >= 0; j--) {
            sum = (sum * i + values[j]) % 23;
        }
        return sum;
    }

    private static void sharesAre(String what, Counted x, int... values) {
        for (int m = 1; m <= 7; m++) {
            due(what + ": SHARE of " + m, at(m, values), x.member(m, 0));
        }
        for (int j = 0; j < values.length; j++) {
            int seal = 1;
            for (int k = 0; k < values[j]; k++) {
                seal = seal * 4 % 47;
            }
            due(what + ": SEAL " + j, seal, x.seal(j));
        }
        due(what + ": no SEAL more", NONE, x.seal(values.length));
    }

    private static void face() {
        TreeSet<String> seen = new TreeSet<>();
        for (Method m : FreshShares.class.getDeclaredMethods()) {
            if (!Modifier.isPrivate(m.getModifiers()) && !m.isSynthetic()) {
                seen.add(Modifier.toString(m.getModifiers()) + " " + m.getReturnType() + " " + m.getName()
                        + "/" + m.getParameterCount());
                due(m.getName() + " takes ints alone", 1,
                        Arrays.stream(m.getParameterTypes()).allMatch(t -> t == int.class) ? 1 : 0);
            }
        }
        for (Field f : FreshShares.class.getDeclaredFields()) {
            if (!Modifier.isPrivate(f.getModifiers()) && !f.isSynthetic()) {
                seen.add(Modifier.toString(f.getModifiers()) + " " + f.getType() + " " + f.getName());
            }
        }
        for (Constructor<?> c : FreshShares.class.getDeclaredConstructors()) {
            seen.add(Modifier.toString(c.getModifiers()) + " new/" + c.getParameterCount());
        }
        TreeSet<String> want = new TreeSet<>();
        for (String name : new String[] {"row/3", "bent/3", "member/2", "say/1", "wipe/0", "fault/0", "act/0", "named/1",
                "fits/2", "seal/1", "weighs/3", "loot/2", "worlds/2", "thief/1", "image/1", "restore/1", "count/1"}) {
            want.add("public int " + name);
        }
        for (String name : new String[] {"UNKNOWN", "OUTSIDE", "STATE", "FULL", "NO", "NONE", "FAULT"}) {
            want.add("public static final int " + name);
        }
        want.add("public new/0");
        if (!seen.equals(want)) {
            wrong++;
            System.out.println("the face is " + seen + ", due is " + want);
        }
        due("the class is public and final", Modifier.PUBLIC | Modifier.FINAL, FreshShares.class.getModifiers());
        due("UNKNOWN", UNKNOWN, FreshShares.UNKNOWN);
        due("OUTSIDE", OUTSIDE, FreshShares.OUTSIDE);
        due("STATE", STATE, FreshShares.STATE);
        due("FULL", FULL, FreshShares.FULL);
        due("NO", NO, FreshShares.NO);
        due("NONE", NONE, FreshShares.NONE);
        due("FAULT", FAULT, FreshShares.FAULT);
    }

    private static void newObject() {
        Counted x = new Counted();
        due("1: threshold", NONE, x.count(0));
        due("1: epoch", NONE, x.count(1));
        for (int what = 2; what <= 7; what++) {
            due("1: count " + what, 0, x.count(what));
        }
        for (int m = 1; m <= 7; m++) {
            for (int what = 0; what <= 2; what++) {
                due("1: share", NONE, x.member(m, what));
            }
            for (int what = 3; what <= 6; what++) {
                due("1: bend", 0, x.member(m, what));
            }
            due("1: answers", 1, x.member(m, 7));
            for (int what = 10; what <= 14; what++) {
                due("1: row", 0, x.member(m, what));
            }
        }
        due("1: liars", 0, x.named(0));
        due("1: struck", 0, x.named(1));
        due("1: text", 0, x.wipe());
        due("1: loot", NONE, x.loot(0, 0));
        due("1: image 0", NO, x.restore(0));
        due("1: image 1", NO, x.restore(1));
    }

    private static void row() {
        Counted x = new Counted();
        for (int who = 0; who <= 7; who++) {
            for (int j = 0; j <= 4; j++) {
                due("2: at first", 0, x.row(who, j, who + j + 1));
            }
        }
        for (int who = 0; who <= 7; who++) {
            for (int j = 0; j <= 4; j++) {
                due("2: which it was", who + j + 1, x.row(who, j, 22));
                due("2: highest", 22, x.row(who, j, 0));
                due("2: lowest", 0, x.row(who, j, who + j + 1));
            }
        }
        for (int who : new int[] {-1, 8, LOW, HIGH}) {
            due("2: no member", UNKNOWN, x.row(who, 0, 0));
            due("2: UNKNOWN is first", UNKNOWN, x.row(who, 5, 23));
        }
        for (int j : new int[] {-1, 5, LOW, HIGH}) {
            due("2: no place", OUTSIDE, x.row(0, j, 0));
        }
        for (int v : new int[] {-1, 23, LOW, HIGH}) {
            due("2: no value", OUTSIDE, x.row(3, 2, v));
        }
        due("2: refused changes nothing", 6, x.row(3, 2, 6));
    }

    private static void bent() {
        Counted x = new Counted();
        int[] highest = {22, 22, 7, 7, 1};
        for (int m = 1; m <= 7; m++) {
            for (int what = 0; what <= 4; what++) {
                int first = what == 4 ? 1 : 0;
                due("3: at first", first, x.bent(m, what, highest[what]));
                due("3: which it was", highest[what], x.bent(m, what, 0));
                due("3: lowest", 0, x.bent(m, what, highest[what]));
                due("3: too high", OUTSIDE, x.bent(m, what, highest[what] + 1));
                due("3: too low", OUTSIDE, x.bent(m, what, -1));
                due("3: far too low", OUTSIDE, x.bent(m, what, LOW));
                due("3: far too high", OUTSIDE, x.bent(m, what, HIGH));
                due("3: it stays", highest[what], x.member(m, what + 3));
            }
        }
        for (int m : new int[] {0, -1, 8, LOW, HIGH}) {
            due("3: no member", UNKNOWN, x.bent(m, 0, 0));
            due("3: UNKNOWN is first", UNKNOWN, x.bent(m, 5, 99));
        }
        for (int what : new int[] {-1, 5, LOW, HIGH}) {
            due("3: no such", OUTSIDE, x.bent(1, what, 0));
        }
    }

    private static void member() {
        Counted x = Counted.dealt(17, 5, 9);
        due("4: share", 8, x.member(1, 0));
        due("4: tells", 8, x.member(1, 1));
        due("4: fits", 1, x.member(1, 2));
        x.bent(1, 0, 20);
        due("4: share, lying", 8, x.member(1, 0));
        due("4: tells, lying", 5, x.member(1, 1));
        due("4: fits, lying", 0, x.member(1, 2));
        x.bent(1, 1, 11);
        x.bent(1, 2, 6);
        x.bent(1, 3, 7);
        x.bent(1, 4, 0);
        int[] bends = {20, 11, 6, 7, 0};
        for (int k = 0; k < 5; k++) {
            due("4: bend " + k, bends[k], x.member(1, 3 + k));
        }
        x.fill(1, 1, 2, 3, 4, 5);
        for (int k = 0; k < 5; k++) {
            due("4: row " + k, k + 1, x.member(1, 10 + k));
        }
        x.order("w1");
        for (int what = 0; what <= 2; what++) {
            due("4: none", NONE, x.member(1, what));
        }
        for (int what : new int[] {-1, 8, 9, 15, LOW, HIGH}) {
            due("4: no such", OUTSIDE, x.member(1, what));
        }
        for (int m : new int[] {0, -1, 8, LOW, HIGH}) {
            due("4: no member", UNKNOWN, x.member(m, 0));
            due("4: UNKNOWN is first", UNKNOWN, x.member(m, 8));
        }
    }

    private static void say() {
        Counted x = new Counted();
        due("5: lowest", 1, x.say(33));
        due("5: highest", 2, x.say(126));
        for (int sign : new int[] {32, 127, 0, -1, LOW, HIGH}) {
            due("5: no sign", OUTSIDE, x.say(sign));
        }
        for (int n = 3; n <= 10; n++) {
            due("5: how many", n, x.say('a'));
        }
        due("5: full", FULL, x.say('a'));
        due("5: OUTSIDE is first", OUTSIDE, x.say(127));
        due("5: ten it stays", 10, x.count(6));
    }

    private static void wipe() {
        Counted x = new Counted();
        due("6: empty", 0, x.wipe());
        x.write("o1");
        due("6: two", 2, x.wipe());
        due("6: empty again", 0, x.count(6));
        due("6: fault of the empty text", 0, x.fault());
        due("6: begins anew", 1, x.say('f'));
        due("6: what stood there is gone", NONE, x.fault());
    }

    private static void faultIs(int want, String text) {
        Counted x = new Counted();
        x.write(text);
        due("7: fault of '" + text + "'", want, x.fault());
        due("7: fault changes nothing", text.length(), x.count(6));
        if (want != NONE) {
            due("8: act on '" + text + "'", FAULT, x.act());
        }
    }

    private static void fault() {
        faultIs(0, "");
        for (String text : new String[] {"d1", "d5", "f", "o1", "o7", "o1234567", "o246", "w1", "w7", "b11", "b71",
                "b31234567", "b77", "t11", "t57", "t51234567", "t37", "s1", "s7"}) {
            faultIs(NONE, text);
        }
        for (String text : new String[] {"d", "o", "w", "b", "t", "s"}) {
            faultIs(1, text);
        }
        for (String text : new String[] {"b1", "b7", "t1", "t5"}) {
            faultIs(2, text);
        }
        for (String text : new String[] {"x", "D1", "1", "!", "~f", "a1", "00"}) {
            faultIs(0, text);
        }
        for (String text : new String[] {"d0", "d6", "dd", "f1", "ff", "o0", "o8", "of", "w0", "w8", "b0", "b81", "t0",
                "t6", "t71", "s0", "s8", "o/", "o:"}) {
            faultIs(1, text);
        }
        for (String text : new String[] {"d11", "d5x", "w12", "s12", "o11", "o21", "o72", "o18", "b10", "b18", "t10",
                "t18", "b1b", "t1t"}) {
            faultIs(2, text);
        }
        faultIs(3, "b111");
        faultIs(3, "b132");
        faultIs(3, "t132");
        faultIs(3, "t155");
        faultIs(4, "o1232");
        faultIs(8, "o12345677");
        faultIs(9, "b112345678");
        faultIs(9, "t51234567!");
    }

    private static void actDeal() {
        Counted x = new Counted();
        x.fill(0, 17, 5, 9, 22, 1);
        int[] values = {17, 5, 9, 22, 1};
        for (int n = 1; n <= 5; n++) {
            due("8: d" + n, 1, x.order("d" + n));
            due("8: text is empty", 0, x.count(6));
            due("8: threshold", n, x.count(0));
            due("8: epoch", n - 1, x.count(1));
            due("8: all have one", 254, x.count(3));
            sharesAre("8: d" + n, x, Arrays.copyOf(values, n));
        }
        x.order("w3");
        x.order("d2");
        sharesAre("8: dealt to those who had none", x, 17, 5);
        x.row(0, 0, 3);
        sharesAre("8: a new ROW alone changes nothing", x, 17, 5);
    }

    private static void actWipe() {
        Counted x = Counted.dealt(4, 4);
        due("8: w3", 6, x.order("w3"));
        due("8: w3 again", 6, x.order("w3"));
        due("8: those who have one", 254 - 8, x.count(3));
        due("8: orders done", 3, x.count(5));
        for (String text : new String[] {"w1", "w2", "w4", "w5", "w6"}) {
            x.order(text);
        }
        due("8: w7", 0, x.order("w7"));
        due("8: epoch stays", 0, x.count(1));
    }

    private static void actOpen() {
        Counted x = Counted.dealt(17, 5, 9);
        due("8: o123", 17, x.order("o123"));
        due("8: o357", 17, x.order("o357"));
        due("8: o1234567", 17, x.order("o1234567"));
        due("8: o57", NO, x.order("o57"));
        due("8: text stays", 3, x.count(6));
        x.order("w2");
        due("8: 2 has none", NO, x.order("o123"));
        due("8: no liars", 0, x.named(0));
        due("8: 2 has none, enough", 17, x.order("o1234"));
        x.bent(1, 0, 1);
        due("8: 1 lies", NO, x.order("o134"));
        due("8: 1 is a liar", 2, x.named(0));
        x.bent(7, 0, 22);
        due("8: two lie", 17, x.order("o1234567"));
        due("8: both are liars", 2 + 128, x.named(0));
        x.bent(2, 0, 3);
        due("8: who has no SHARE is no liar", 17, x.order("o2345"));
        due("8: no liar", 0, x.named(0));
    }

    private static void actRebuild() {
        Counted x = Counted.dealt(17, 5, 9);
        due("8: it has one", NO, x.order("b4123"));
        x.order("w4");
        due("8: fewer", NO, x.order("b412"));
        due("8: itself does not count", NO, x.order("b4124"));
        due("8: text stays", 5, x.count(6));
        x.bent(2, 0, 9);
        due("8: 2 lies", NO, x.order("b4123"));
        due("8: 2 is named", 4, x.named(0));
        due("8: none yet", NONE, x.member(4, 0));
        x.fill(6, 0, 3, 20);
        x.order("f");
        due("8: enough others", 1, x.order("b41235"));
        due("8: 2 is named, too", 4, x.named(0));
        due("8: rebuilt", at(4, 17, 8, 6), x.member(4, 0));
        due("8: epoch stays", 1, x.count(1));
        due("8: it has one, ahead of all else", NO, x.order("b412"));
        due("8: nobody is named then", 0, x.named(0));
    }

    private static void actFresh() {
        Counted x = Counted.dealt(17, 5, 9);
        x.fill(1, 13, 4, 1, 8, 8);
        x.fill(2, 13, 0, 6, 8, 8);
        x.fill(7, 13, 20, 20, 8, 8);
        due("8: f", 7, x.order("f"));
        sharesAre("8: f", x, 17, (5 + 4 + 20) % 23, (9 + 1 + 6 + 20) % 23);
        due("8: epoch", 1, x.count(1));
        due("8: threshold", 3, x.count(0));
        x.order("w7");
        due("8: f of six", 6, x.order("f"));
        due("8: 7 has none", NONE, x.member(7, 0));
        due("8: seal", (5 + 4 + 20 + 4) % 23, exponent(x.seal(1)));
        due("8: b7", 1, x.order("b7123"));
        sharesAre("8: 7's row was not taken", x, 17, (5 + 4 + 20 + 4) % 23, (9 + 1 + 6 + 20 + 1 + 6) % 23);
        for (int m = 1; m <= 7; m++) {
            x.order("w" + m);
        }
        due("8: f of nobody", 0, x.order("f"));
        due("8: epoch all the same", 3, x.count(1));

        Counted y = Counted.dealt(6);
        y.fill(3, 1, 2, 3, 4, 5);
        due("8: f of threshold 1", 7, y.order("f"));
        sharesAre("8: f of threshold 1", y, 6);
    }

    private static int exponent(int seal) {
        int power = 1;
        for (int v = 0; v < 23; v++) {
            if (power == seal) {
                return v;
            }
            power = power * 4 % 47;
        }
        return -99;
    }

    private static void actSpread() {
        Counted x = Counted.dealt(3, 8);
        x.fill(5, 0, 11);
        x.bent(5, 2, 6);
        x.bent(5, 1, 4);
        due("8: 5 slips, and answers", 7, x.order("f"));
        due("8: no liars", 0, x.named(0));
        due("8: none struck", 0, x.named(1));
        sharesAre("8: each has what is right", x, 3, 19);

        x.bent(6, 3, 5);
        x.order("f");
        due("8: a grudge of what does not FIT is no lie", 0, x.named(0));
        x.bent(4, 3, 5);
        x.order("f");
        due("8: a grudge of what does FIT is one", 16, x.named(0));

        x.bent(5, 4, 0);
        due("8: 5 does not answer", 6, x.order("f"));
        due("8: 5 is struck", 32, x.named(1));
        due("8: who complained of the struck is no liar", 0, x.named(0));
        due("8: 5 has none", NONE, x.member(5, 0));
        due("8: its row is not taken", (19 + 11 + 11) % 23, exponent(x.seal(1)));
        due("8: 5 spreads no more", 6, x.order("f"));
        due("8: so nobody is struck", 0, x.named(1));

        Counted y = Counted.dealt(3, 8);
        y.bent(2, 2, 3);
        y.bent(2, 4, 0);
        due("8: a slip of 0 fits", 7, y.order("f"));
        y.bent(2, 1, 1);
        y.order("w3");
        due("8: a foe without a SHARE is sent nothing", 6, y.order("f"));
        y.bent(2, 2, 2);
        due("8: one's own foe", 5, y.order("f"));
        due("8: is struck", 4, y.named(1));

        Counted z = Counted.dealt(3, 8);
        z.bent(1, 4, 0);
        z.bent(1, 3, 2);
        z.bent(2, 4, 0);
        z.bent(2, 3, 1);
        due("8: the struck still complain", 5, z.order("f"));
        due("8: both are struck", 6, z.named(1));

        Counted own = Counted.dealt(3, 8);
        own.bent(4, 3, 4);
        due("8: one's own grudge", 7, own.order("f"));
        due("8: makes a liar", 16, own.named(0));
    }

    private static void actMove() {
        Counted x = Counted.dealt(17, 5, 9);
        for (int m = 1; m <= 7; m++) {
            x.fill(m, 12, m, 2 * m, 3 * m, 22 - m);
        }
        x.order("w7");
        due("8: t4", 6, x.order("t413567"));
        due("8: threshold", 4, x.count(0));
        due("8: epoch", 1, x.count(1));
        due("8: of the old epoch", 3, x.count(10));
        due("8: of the new epoch", 4, x.count(11));
        int w1 = x.weighs(1, 42, 0);
        int w3 = x.weighs(3, 42, 0);
        int w5 = x.weighs(5, 42, 0);
        int slope = (w1 + 3 * w3 + 5 * w5) % 23;
        x.order("b71234");
        sharesAre("8: the first three were taken", x, 17, slope, 2 * slope % 23, 3 * slope % 23);
        due("8: three are too few now", NO, x.order("o123"));
        due("8: four are not", 17, x.order("o1235"));
        due("8: t1", 7, x.order("t11234567"));
        sharesAre("8: t1", x, 17);
        due("8: one is enough now", 17, x.order("o6"));
        due("8: t5", 7, x.order("t52"));
        due("8: five are needed now", 17, x.order("o12345"));

        Counted y = Counted.dealt(3, 8);
        y.bent(2, 0, 5);
        y.bent(4, 4, 0);
        y.bent(6, 3, 4);
        y.bent(7, 0, 1);
        due("8: fewer are taken", NO, y.order("t3246"));
        due("8: 2 is named", 4, y.named(0));
        due("8: 4 is struck", 16, y.named(1));
        due("8: text stays", 5, y.count(6));
        due("8: threshold stays", 2, y.count(0));
        due("8: epoch stays", 0, y.count(1));
        sharesAre("8: nothing is changed", y, 3, 8);
        y.bent(5, 3, 3);
        due("8: enough are taken", 6, y.order("t323467"));
        due("8: those behind are not asked", 4 + 32, y.named(0));
        due("8: 4 is struck for good", 16, y.named(1));
        due("8: 4 has none", NONE, y.member(4, 0));
        due("8: open", 3, y.order("o1356"));
    }

    private static void actSteal() {
        Counted x = Counted.dealt(17, 5, 9);
        x.bent(1, 0, 2);
        due("8: s1", 1, x.order("s1"));
        due("8: what is stolen is no lie", 8, x.loot(0, 2));
        due("8: 1 still has it", 8, x.member(1, 0));
        x.order("w2");
        due("8: 2 has none", NO, x.order("s2"));
        due("8: none more", 1, x.count(4));
        for (int n = 2; n <= 24; n++) {
            due("8: s3", n, x.order("s3"));
        }
        due("8: full", FULL, x.order("s3"));
        due("8: FULL ahead of NO", FULL, x.order("s2"));
        due("8: 24 they stay", 24, x.count(4));
    }

    private static void actRefused() {
        Counted x = new Counted();
        for (String text : new String[] {"f", "o1", "w1", "b12", "t11", "s1"}) {
            due("8: nothing was dealt: " + text, STATE, x.order(text));
            due("8: text stays", text.length(), x.count(6));
            due("8: FAULT is first", FAULT, x.order(text + "!"));
        }
        due("8: none done", 0, x.count(5));
        due("8: the empty text", FAULT, x.order(""));
        due("8: d1", 1, x.order("d1"));
        due("8: one done", 1, x.count(5));
    }

    private static void actAtLastEpoch() {
        Counted x = Counted.dealt(17, 5);
        for (int e = 1; e <= 199; e++) {
            x.say('f');
            due("8: f", 7, x.act());
        }
        due("8: the last epoch", 199, x.count(1));
        x.bent(2, 0, 4);
        x.order("o12");
        due("8: 2 is named", 4, x.named(0));
        for (String text : new String[] {"d2", "f", "t213", "t22"}) {
            due("8: full: " + text, FULL, x.order(text));
            due("9: nobody is named", 0, x.named(0));
        }
        due("8: epoch stays", 199, x.count(1));
        due("18: its threshold", 2, x.count(209));
        due("18: none behind", OUTSIDE, x.count(210));
        due("8: s1", 1, x.order("s1"));
        due("13: its epoch", 199, x.loot(0, 1));
        due("14: worlds", 1, x.worlds(199, 0));
        due("14: none behind", OUTSIDE, x.worlds(200, 0));
    }

    private static void named() {
        Counted x = Counted.dealt(3, 8);
        x.bent(2, 0, 5);
        x.order("o123");
        due("9: done", 4, x.named(0));
        x.order("o1x");
        due("9: a FAULT changes nothing", 4, x.named(0));
        x.order("o12");
        due("9: refused", 4, x.named(0));
        x.order("w7");
        due("9: w names nobody", 0, x.named(0));
        x.bent(3, 4, 0);
        x.bent(4, 3, 3);
        x.order("t123");
        due("9: liars", 4, x.named(0));
        due("9: struck", 8, x.named(1));
        for (String text : new String[] {"s1", "d2", "s1"}) {
            x.order("t123");
            due("9: struck again", 8, x.named(1));
            x.order(text);
            due("9: liars of " + text, 0, x.named(0));
            due("9: struck of " + text, 0, x.named(1));
        }
        for (int what : new int[] {-1, 2, LOW, HIGH}) {
            due("9: no such", OUTSIDE, x.named(what));
        }
    }

    private static void fits() {
        Counted x = new Counted();
        due("10: nothing was dealt", STATE, x.fits(0, 0));
        for (int n : new int[] {-1, 23, LOW, HIGH}) {
            due("10: OUTSIDE is first, v", OUTSIDE, x.fits(n, 0));
            due("10: OUTSIDE is first, at", OUTSIDE, x.fits(0, n));
        }
        int[] values = {22, 3, 0, 7, 19};
        for (int n = 1; n <= 5; n++) {
            for (int at = 0; at <= 22; at++) {
                x = Counted.dealt(Arrays.copyOf(values, n));
                for (int v = 0; v <= 22; v++) {
                    int want = at(at, Arrays.copyOf(values, n)) == v ? 1 : 0;
                    due("10: fits " + v + " at " + at, want, x.fits(v, at));
                }
            }
        }
        due("10: v", OUTSIDE, x.fits(23, 0));
        due("10: at", OUTSIDE, x.fits(0, 23));
    }

    private static void seal() {
        Counted x = new Counted();
        due("11: nothing was dealt", STATE, x.seal(0));
        due("11: nothing was dealt", STATE, x.seal(-1));
        x = Counted.dealt(17, 5, 9);
        due("11: seal 0", 27, x.seal(0));
        due("11: seal 2", 25, x.seal(2));
        for (int j : new int[] {-1, 3, 4, 5, LOW, HIGH}) {
            due("11: none such", NONE, x.seal(j));
        }
    }

    private static void weighs() {
        Counted x = new Counted();
        due("12: 1 of 1, 2", 2, x.weighs(1, 6, 0));
        due("12: 2 of 1, 2", 22, x.weighs(2, 6, 0));
        due("12: alone", 1, x.weighs(7, 128, 22));
        for (int set = 2; set <= 254; set += 2) {
            x = new Counted();
            for (int at = 0; at <= 22; at++) {
                int sum = 0;
                int atNumbers = 0;
                for (int m = 1; m <= 7; m++) {
                    if ((set >> m & 1) != 0) {
                        int weight = x.weighs(m, set, at);
                        sum += weight;
                        atNumbers += weight * m;
                        if (at >= 1 && at <= 7 && (set >> at & 1) != 0) {
                            due("12: at a member of the set", at == m ? 1 : 0, weight);
                        }
                    } else {
                        due("12: not of the set", UNKNOWN, x.weighs(m, set, at));
                    }
                }
                due("12: they weigh 1 in all", 1, sum % 23);
                if (Integer.bitCount(set) >= 2) {
                    due("12: they weigh out a line", at, atNumbers % 23);
                }
            }
        }
        x = new Counted();
        for (int m : new int[] {0, -1, 8, 33, -31, LOW, HIGH}) {
            due("12: no member", UNKNOWN, x.weighs(m, 254, 0));
        }
        due("12: the empty set", UNKNOWN, x.weighs(1, 0, 0));
        for (int set : new int[] {1, 255, 256, 258, -2, -1, LOW, HIGH}) {
            due("12: no set", OUTSIDE, x.weighs(1, set, 0));
            due("12: OUTSIDE ahead of UNKNOWN", OUTSIDE, x.weighs(9, set, 0));
        }
        for (int at : new int[] {-1, 23, LOW, HIGH}) {
            due("12: no number", OUTSIDE, x.weighs(1, 6, at));
            due("12: OUTSIDE ahead of UNKNOWN", OUTSIDE, x.weighs(3, 6, at));
        }
    }

    private static void loot() {
        Counted x = Counted.dealt(9, 1, 2);
        x.order("s1");
        x.order("f");
        x.order("s3");
        due("13: member", 1, x.loot(0, 0));
        due("13: epoch", 0, x.loot(0, 1));
        due("13: share", 12, x.loot(0, 2));
        due("13: member", 3, x.loot(1, 0));
        due("13: epoch", 1, x.loot(1, 1));
        due("13: share", 7, x.loot(1, 2));
        for (int i : new int[] {-1, 2, 23, 24, LOW, HIGH}) {
            due("13: none such", NONE, x.loot(i, 0));
            due("13: OUTSIDE is first", OUTSIDE, x.loot(i, 3));
        }
        for (int what : new int[] {-1, 3, LOW, HIGH}) {
            due("13: no such", OUTSIDE, x.loot(0, what));
        }
    }

    private static void worlds() {
        Counted x = new Counted();
        due("14: nothing was dealt", OUTSIDE, x.worlds(0, 0));
        x.fill(0, 9, 1, 2, 3, 4);
        int[] powers = {1, 23, 529, 12167, 279841};
        for (int n = 1; n <= 5; n++) {
            x.order("d" + n);
            for (int stolen = 0; stolen < n; stolen++) {
                for (int v = 0; v <= 22; v += 3) {
                    due("14: " + stolen + " of " + n, powers[n - 1 - stolen], x.worlds(n - 1, v));
                }
                x.order("s" + (stolen + 1));
            }
            x.order("s1");
            for (int v = 0; v <= 22; v++) {
                due("14: enough", v == 9 ? 1 : 0, x.worlds(n - 1, v));
            }
        }
        x = Counted.dealt(9, 1);
        for (int m = 1; m <= 7; m++) {
            x.order("s" + m);
        }
        due("14: all", 1, x.worlds(0, 9));
        due("14: all", 0, x.worlds(0, 10));
        x.order("t47123");
        x.order("t41237");
        due("14: an older threshold", 1, x.worlds(0, 9));
        due("14: the new one", 12167, x.worlds(1, 9));
        for (int v : new int[] {-1, 23, LOW, HIGH}) {
            due("14: no value", OUTSIDE, x.worlds(0, v));
        }
        for (int e : new int[] {-1, 2, 200, LOW, HIGH}) {
            due("14: no epoch", OUTSIDE, x.worlds(e, 0));
        }
    }

    private static void thief() {
        Counted x = new Counted();
        for (int what = 0; what <= 2; what++) {
            due("15: nothing was dealt", STATE, x.thief(what));
        }
        for (int what : new int[] {-1, 3, LOW, HIGH}) {
            due("15: OUTSIDE is first", OUTSIDE, x.thief(what));
        }
        x = Counted.dealt(9, 1, 2);
        for (int what = 0; what <= 2; what++) {
            due("15: no loot", NONE, x.thief(what));
        }
        for (String text : new String[] {"s3", "s1", "s1", "s3"}) {
            x.order(text);
        }
        for (int what = 0; what <= 2; what++) {
            due("15: twice the same is no more", NONE, x.thief(what));
        }
        x.fill(4, 0, 7, 0);
        x.fill(6, 0, 0, 3);
        x.order("f");
        x.order("s5");
        due("15: of no epoch enough", NONE, x.thief(0));
        due("15: none", NONE, x.thief(1));
        due("15: mixed", 10, x.thief(2));
        x.order("s1");
        x.order("s7");
        due("15: of epoch 1", 1, x.thief(0));
        due("15: the secret", 9, x.thief(1));
        due("15: the first loots of the first members", 10, x.thief(2));
        x.row(0, 0, 20);
        x.order("d1");
        x.order("s7");
        due("15: still epoch 1", 1, x.thief(0));
        due("15: its secret", 9, x.thief(1));
        due("15: by the threshold now", 12, x.thief(2));
        x.order("t57");
        due("15: fewer than the threshold now", NONE, x.thief(2));
        due("15: the old one stays", 9, x.thief(1));
    }

    private static void image() {
        Counted x = Counted.dealt(9, 1, 2);
        due("16: image 0", 1, x.image(0));
        due("18: kept", 1, x.count(7));
        x.order("w1");
        due("16: image 1", 1, x.image(1));
        due("18: kept", 3, x.count(7));
        x.restore(0);
        due("16: as it was in 0", 254, x.count(3));
        x.restore(1);
        due("16: as it was in 1", 252, x.count(3));
        x.order("w2");
        x.image(0);
        x.order("d1");
        x.restore(0);
        due("16: in place of what was kept", 248, x.count(3));
        for (int k : new int[] {-1, 2, 32, LOW, HIGH}) {
            due("16: no image", OUTSIDE, x.image(k));
        }
        due("18: only these", 3, x.count(7));
    }

    private static void restore() {
        Counted x = new Counted();
        for (int k : new int[] {-1, 2, 32, LOW, HIGH}) {
            due("17: no image", OUTSIDE, x.restore(k));
        }
        due("17: nothing was kept", NO, x.restore(0));
        x.image(1);
        due("17: nothing was kept in 0", NO, x.restore(0));
        x.fill(0, 9, 1, 2);
        x.order("d3");
        due("17: a new object", 1, x.restore(1));
        due("17: nothing was dealt", NONE, x.count(0));
        due("17: no seals", STATE, x.seal(0));
        due("17: dealer's row", 0, x.row(0, 0, 9));
        due("17: which it was", 0, x.row(0, 1, 1));
        x.order("d2");
        due("17: the first epoch again", 0, x.count(1));
        x.fill(3, 1, 2, 3, 4, 5);
        for (int what = 0; what <= 3; what++) {
            x.bent(3, what, 6);
        }
        x.bent(3, 4, 0);
        x.bent(5, 3, 3);
        x.order("s4");
        x.order("t3123");
        x.order("o13");
        x.order("t313");
        x.image(0);
        x.write("o12");
        int[] before = facts(x);
        x.fill(3, 9, 9, 9, 9, 9);
        for (int what = 0; what <= 3; what++) {
            x.bent(3, what, 1);
        }
        x.bent(3, 4, 1);
        x.order("d5");
        x.order("s4");
        x.order("w1");
        x.image(1);
        x.write("o12");
        due("17: restored", 1, x.restore(0));
        due("17: all as it was", 0, Arrays.compare(before, facts(x)));
        due("17: the text stays", 3, x.count(6));
        due("17: the other image stays", 3, x.count(7));
        x.order("w1");
        due("17: again", 1, x.restore(0));
        due("17: all as it was, again", 0, Arrays.compare(before, facts(x)));
        due("17: the text is as it is", 0, x.count(6));
    }

    private static void restoreAmongTwo() {
        Counted x = Counted.dealt(9, 1, 2);
        x.image(0);
        x.bent(3, 4, 0);
        x.bent(5, 3, 3);
        x.order("t4124");
        x.order("t51247");
        x.order("f");
        due("17: 3 is struck", 8, x.named(1));
        x.image(1);
        x.order("w1");
        x.restore(0);
        due("17: nobody is struck", 0, x.named(1));
        for (int k = 0; k < 4; k++) {
            x.order("d1");
        }
        due("17: another epoch 1", 1, x.count(11));
        x.restore(1);
        due("17: struck as it was", 8, x.named(1));
        int[] thresholds = {3, 4, 5, 5};
        for (int e = 0; e < thresholds.length; e++) {
            due("17: threshold of epoch " + e, thresholds[e], x.count(10 + e));
        }
        due("17: no epoch more", OUTSIDE, x.count(14));
        due("17: worlds of an older threshold", 12167, x.worlds(1, 0));
    }

    /** All that can be asked, but what tells of images. */
    private static int[] facts(Counted x) {
        int[] all = new int[256];
        int n = 0;
        for (int what = 0; what <= 5; what++) {
            all[n++] = x.count(what);
        }
        for (int what = 10; what <= 14; what++) {
            all[n++] = x.count(what);
        }
        for (int m = 1; m <= 7; m++) {
            for (int what = 0; what <= 14; what++) {
                all[n++] = x.member(m, what);
            }
        }
        for (int j = 0; j <= 4; j++) {
            all[n++] = x.seal(j);
        }
        for (int i = 0; i <= 3; i++) {
            for (int what = 0; what <= 2; what++) {
                all[n++] = x.loot(i, what);
            }
        }
        all[n++] = x.named(0);
        all[n++] = x.named(1);
        return all;
    }

    private static void count() {
        Counted x = Counted.dealt(9, 1, 2);
        due("18: threshold", 3, x.count(0));
        due("18: epoch", 0, x.count(1));
        x.order("w1");
        x.order("t2234");
        x.order("s5");
        x.order("o1");
        due("18: threshold", 2, x.count(0));
        due("18: epoch", 1, x.count(1));
        due("18: how many have one", 6, x.count(2));
        due("18: which", 252, x.count(3));
        due("18: loots", 1, x.count(4));
        due("18: done", 4, x.count(5));
        due("18: signs", 2, x.count(6));
        due("18: images", 0, x.count(7));
        x.image(1);
        due("18: images", 2, x.count(7));
        due("18: of epoch 0", 3, x.count(10));
        due("18: of epoch 1", 2, x.count(11));
        for (int what : new int[] {-1, 8, 9, 12, 209, 210, LOW, LOW + 9, LOW + 10, HIGH}) {
            due("18: no such", OUTSIDE, x.count(what));
        }
    }
}
