import java.util.ArrayList;
import java.util.Arrays;
import java.util.List;
import java.util.function.Supplier;
import java.util.function.ToIntFunction;
import java.util.regex.Pattern;

/** Each sentence of the document that names a boundary case: what is due on the boundary, and on both its sides. */
public final class BoundariesTest {
    private static final int UNKNOWN = -1, OUTSIDE = -2, STATE = -3, FULL = -4, NO = -5, NONE = -6, FAULT = -7;
    private static final int LOW = Integer.MIN_VALUE, HIGH = Integer.MAX_VALUE;
    private static final int LIE = 0, SLIP = 1, FOE = 2, GRUDGE = 3, ANSWERS = 4;
    private static final int LIARS = 0, STRUCK = 1;
    /** 4 to the power of 0, 1, .. 22, modulo 47. */
    private static final int[] SEALS = {1, 4, 16, 17, 21, 37, 7, 28, 18, 25, 6, 24, 2, 8, 32, 34, 42, 27, 14, 9, 36, 3, 12};

    private static String sentence = "";
    private static int wrong = 0;

    public static void main(String[] args) {
        whatItIs();
        refusedCalls();
        values();
        members();
        weights();
        texts();
        namedByOrders();
        dealAndWipe();
        open();
        rebuild();
        steal();
        fresh();
        spread();
        move();
        movedShares();
        newObject();
        rowAndBent();
        memberCall();
        sayWipeFault();
        act();
        named();
        fitsAndSeal();
        weighs();
        loot();
        worlds();
        thief();
        images();
        count();
        System.out.println(wrong == 0 ? "all boundaries hold" : wrong + " answers are not as due");
        if (wrong != 0) {
            System.exit(1);
        }
    }

    /** The words of the document that are looked at from here on. */
    private static void sentence(String words) {
        sentence = words;
    }

    private static void due(String what, int want, int got) {
        if (got != want) {
            wrong++;
            System.out.println("\"" + sentence + "\": " + what + " answered " + got + ", due is " + want);
        }
    }

    private static int at(int i, int... polynomial) {
        int sum = 0;
        int power = 1;
        for (int a : polynomial) {
            sum += a * power;
            power = power * i % 23;
        }
        return sum % 23;
    }

    /** SHARES of a set of MEMBERS are those of a POLYNOMIAL, nobody else has one, and so are THE SEALS. */
    private static void holds(String what, Counted x, int set, int... polynomial) {
        for (int m = 1; m <= 7; m++) {
            int want = (set >> m & 1) == 0 ? NONE : at(m, polynomial);
            due(what + ": SHARE of " + m, want, x.member(m, 0));
        }
        for (int j = 0; j < 5; j++) {
            due(what + ": SEAL " + j, j < polynomial.length ? SEALS[polynomial[j]] : NONE, x.seal(j));
        }
        due(what + ": THRESHOLD", polynomial.length, x.count(0));
        due(what + ": who has a SHARE", set, x.count(3));
        due(what + ": how many have one", Integer.bitCount(set), x.count(2));
    }

    private static void names(String what, Counted x, int liars, int struck) {
        due(what + ": LIARS", liars, x.named(LIARS));
        due(what + ": STRUCK", struck, x.named(STRUCK));
    }

    private static int set(int... members) {
        int set = 0;
        for (int m : members) {
            set |= 1 << m;
        }
        return set;
    }

    private static Counted without(Counted x, int... members) {
        for (int m : members) {
            x.order("w" + m);
        }
        return x;
    }

    /** f, so often. */
    private static void freshen(Counted x, int times) {
        x.wipe();
        for (int k = 0; k < times; k++) {
            x.say('f');
            x.act();
        }
    }

    // ---- what it is

    private static void whatItIs() {
        sentence("An object is used for at most 512 calls after it has been made; what later calls answer is free.");
        Counted x = new Counted();
        x.say('d');
        x.say('1');
        due("call 3", 1, x.act());
        for (int k = 1; k <= 199; k++) {
            x.say('f');
            due("call " + x.calls() + " and one", 7, x.act());
        }
        for (int k = 0; k < 36; k++) {
            x.say('w');
            x.say('1');
            due("call " + x.calls() + " and one", 6, x.act());
        }
        due("call 510", 199, x.count(1));
        due("call 511", 0, x.count(6));
        due("call 512", 236, x.count(5));
        due("so many calls", 512, x.calls());

        Counted y = Counted.dealt(4, 9);
        while (y.calls() < 510) {
            y.image(y.calls() % 2);
            y.restore(1 - y.calls() % 2);
        }
        y.image(1);
        due("call 512, an IMAGE", 1, y.restore(1));

        Counted z = new Counted();
        for (int k = 1; k <= 512; k++) {
            due("call " + k + ", a sign", k <= 10 ? k : FULL, z.say('f'));
        }
    }

    // ---- refused calls

    private static void refusedCalls() {
        sentence("Calls that are refused answer the first of these that fits: UNKNOWN -1 (no such MEMBER), OUTSIDE -2 "
                + "(another number is not as told), FAULT -7 (the text is none), STATE -3 (nothing was dealt yet, if "
                + "nothing else is told), NO -5 (as told with the call), FULL -4.");
        Counted x = new Counted();
        due("row: UNKNOWN ahead of OUTSIDE", UNKNOWN, x.row(8, 5, 23));
        due("row: UNKNOWN ahead of OUTSIDE", UNKNOWN, x.row(-1, -1, -1));
        due("bent: UNKNOWN ahead of OUTSIDE", UNKNOWN, x.bent(0, 5, 23));
        due("bent: UNKNOWN ahead of OUTSIDE", UNKNOWN, x.bent(8, 0, 23));
        due("member: UNKNOWN ahead of OUTSIDE", UNKNOWN, x.member(0, 8));
        due("member: UNKNOWN ahead of OUTSIDE", UNKNOWN, x.member(8, -1));
        due("fits: OUTSIDE ahead of STATE", OUTSIDE, x.fits(23, 0));
        due("fits: OUTSIDE ahead of STATE", OUTSIDE, x.fits(0, 23));
        due("thief: OUTSIDE ahead of STATE", OUTSIDE, x.thief(3));
        due("restore: OUTSIDE ahead of NO", OUTSIDE, x.restore(2));
        due("act: FAULT ahead of STATE", FAULT, x.order("f1"));
        for (String text : new String[] {"o1", "b12", "t11", "s1"}) {
            due("act: STATE ahead of NO, " + text, STATE, x.order(text));
        }
        x.write("ffffffffff");
        due("say: OUTSIDE ahead of FULL", OUTSIDE, x.say(32));
        due("say: OUTSIDE ahead of FULL", OUTSIDE, x.say(127));
        due("say: FULL", FULL, x.say(33));
        Counted last = Counted.dealt(1);
        freshen(last, 199);
        due("act: FAULT ahead of FULL", FAULT, last.order("d6"));
        due("act: FAULT ahead of FULL", FAULT, last.order("ff"));

        sentence("What is refused changes nothing but what is told of the last ORDER.");
        refusedOfNew();
        refusedOfDealt();
        refusedOfFullLoot();
        refusedOfLastEpoch();

        sentence("A set is a number: bit m (of the value 1 shifted left by m) tells whether MEMBER m is in it.");
        for (int m = 1; m <= 7; m++) {
            Counted y = Counted.dealt(5, 1);
            y.bent(m, LIE, 1);
            y.order("o1234567");
            names("MEMBER " + m + " lies", y, 1 << m, 0);
            y.bent(m, SLIP, 1);
            y.bent(m, FOE, 1);
            y.bent(m, ANSWERS, 0);
            y.order("f");
            names("MEMBER " + m + " is STRUCK", y, 0, 1 << m);
            due("all but MEMBER " + m, 254 - (1 << m), y.count(3));
            due("MEMBER " + m + " alone is in it", 1, y.weighs(m, 1 << m, 9));
        }
    }

    /** Of two objects that were made alike one is refused a call: nobody can tell them apart after it. */
    private static void refused(String what, Supplier<Counted> make, int want, ToIntFunction<Counted> call) {
        Counted x = make.get();
        due(what, want, call.applyAsInt(x));
        Counted y = make.get();
        names(what + ": as before", x, y.named(LIARS), y.named(STRUCK));
        asBefore(what, x, y);
    }

    private static void asBefore(String what, Counted x, Counted y) {
        List<Integer> got = facts(x);
        List<Integer> before = facts(y);
        due(what + ": all as before", 1, got.equals(before) ? 1 : 0);
    }

    private static void refusedAct(String text, Supplier<Counted> make, int want) {
        Supplier<Counted> saying = () -> {
            Counted x = make.get();
            x.write(text);
            return x;
        };
        if (want == FAULT) {
            refused("act of '" + text + "'", saying, want, Counted::act);
            return;
        }
        // the last ORDER is another one then
        Counted x = saying.get();
        due("act of '" + text + "'", want, x.act());
        asBefore("act of '" + text + "'", x, saying.get());
    }

    /** What can be asked, but who is named; what the IMAGES keep comes last. */
    private static List<Integer> facts(Counted x) {
        List<Integer> all = new ArrayList<>();
        for (int what = 0; what <= 7; what++) {
            all.add(x.count(what));
        }
        all.add(x.fault());
        for (int m = 1; m <= 7; m++) {
            for (int what = 0; what <= 14; what++) {
                all.add(what == 8 || what == 9 ? 0 : x.member(m, what));
            }
        }
        for (int j = 0; j <= 4; j++) {
            all.add(x.seal(j));
            all.add(x.row(0, j, 0));
        }
        for (int i = 0; i < x.count(4); i++) {
            all.add(x.loot(i, 0) + 10 * x.loot(i, 1) + 10000 * x.loot(i, 2));
        }
        for (int e = 0; e < 4; e++) {
            all.add(x.count(10 + e));
        }
        for (int k = 0; k <= 1; k++) {
            all.add(x.restore(k));
            all.add(x.count(0));
            all.add(x.count(1));
            all.add(x.count(3));
        }
        return all;
    }

    /** The calls that are refused in every state, each with what it answers. */
    private static void refusedOfAll(Supplier<Counted> make) {
        for (int who : new int[] {-1, 8, LOW, HIGH}) {
            refused("row(" + who + ", 0, 1)", make, UNKNOWN, x -> x.row(who, 0, 1));
            refused("bent(" + who + ", 0, 1)", make, UNKNOWN, x -> x.bent(who, 0, 1));
            refused("member(" + who + ", 0)", make, UNKNOWN, x -> x.member(who, 0));
            refused("weighs(" + who + ", 254, 0)", make, UNKNOWN, x -> x.weighs(who, 254, 0));
        }
        for (int n : new int[] {-1, 23, LOW, HIGH}) {
            refused("row(0, 0, " + n + ")", make, OUTSIDE, x -> x.row(0, 0, n));
            refused("row(7, " + n + ", 1)", make, OUTSIDE, x -> x.row(7, n, 1));
            refused("bent(1, 0, " + n + ")", make, OUTSIDE, x -> x.bent(1, 0, n));
            refused("bent(7, " + n + ", 0)", make, OUTSIDE, x -> x.bent(7, n, 0));
            refused("member(1, " + n + ")", make, OUTSIDE, x -> x.member(1, n));
            refused("named(" + n + ")", make, OUTSIDE, x -> x.named(n));
            refused("fits(" + n + ", 0)", make, OUTSIDE, x -> x.fits(n, 0));
            refused("weighs(1, 2, " + n + ")", make, OUTSIDE, x -> x.weighs(1, 2, n));
            refused("loot(0, " + n + ")", make, OUTSIDE, x -> x.loot(0, n));
            refused("worlds(0, " + n + ")", make, OUTSIDE, x -> x.worlds(0, n));
            refused("thief(" + n + ")", make, OUTSIDE, x -> x.thief(n));
            refused("image(" + n + ")", make, OUTSIDE, x -> x.image(n));
            refused("restore(" + n + ")", make, OUTSIDE, x -> x.restore(n));
            refused("say(" + (n == 23 ? 127 : n) + ")", make, OUTSIDE, x -> x.say(n == 23 ? 127 : n));
            refused("count(" + (n == 23 ? 9 : n) + ")", make, OUTSIDE, x -> x.count(n == 23 ? 9 : n));
        }
        for (String text : new String[] {"", "d", "d0", "d6", "f1", "o", "o11", "w8", "b1", "t11!", "s", "ffffffffff"}) {
            refusedAct(text, make, FAULT);
        }
    }

    private static void refusedOfNew() {
        Supplier<Counted> make = () -> {
            Counted x = new Counted();
            x.write("o12");
            return x;
        };
        refusedOfAll(make);
        for (String text : new String[] {"f", "o1", "w1", "b12", "t11", "s1"}) {
            refusedAct(text, make, STATE);
        }
        refused("fits", make, STATE, x -> x.fits(0, 0));
        refused("seal", make, STATE, x -> x.seal(0));
        refused("thief", make, STATE, x -> x.thief(0));
        refused("restore", make, NO, x -> x.restore(0));
    }

    private static Counted dealtAndUsed() {
        Counted x = new Counted();
        use(x);
        return x;
    }

    /**
     * To a state in which little is 0: 4 has no SHARE, 2 lies, 5 has a GRUDGE against 6, who does not ANSWER, and the last
     * ORDER, which was refused, named 2 and 6.
     */
    private static void use(Counted x) {
        x.fill(0, 17, 5, 9);
        x.order("d3");
        for (int m = 1; m <= 7; m++) {
            x.fill(m, m, m + 7, 22 - m, 11, 2 * m);
        }
        x.order("s3");
        x.order("f");
        x.order("s1");
        x.image(1);
        x.order("w4");
        x.bent(2, LIE, 6);
        x.bent(5, GRUDGE, 6);
        x.bent(6, ANSWERS, 0);
        x.order("t526");
        x.write("o1");
    }

    /** To a state that is another one wherever it can be. */
    private static void useOtherwise(Counted x) {
        x.fill(0, 1, 2, 3, 4, 5);
        for (int m = 1; m <= 7; m++) {
            x.fill(m, 20, 19, 18, m, m);
            x.bent(m, LIE, m);
            x.bent(m, FOE, m);
            x.bent(m, SLIP, m);
            x.bent(m, GRUDGE, m == 5 ? 7 : 0);
        }
        x.order("d5");
        x.order("d1");
        x.order("s7");
        x.order("f");
        x.order("s6");
        x.order("w2");
        x.order("s5");
    }

    private static void refusedOfDealt() {
        Supplier<Counted> make = BoundariesTest::dealtAndUsed;
        names("at first", dealtAndUsed(), set(2), set(6));
        refusedOfAll(make);
        for (String text : new String[] {"o1", "o12", "o124", "b1234", "b412", "b4124", "t512", "t5126", "t112467", "s4"}) {
            refusedAct(text, make, NO);
        }
        refused("restore", make, NO, x -> x.restore(0));
        refused("worlds", make, OUTSIDE, x -> x.worlds(2, 0));
        Supplier<Counted> full = () -> {
            Counted x = dealtAndUsed();
            x.write("o123456789");
            return x;
        };
        refused("say of an eleventh", full, FULL, x -> x.say('1'));
    }

    private static Counted withLoot(int many) {
        Counted x = without(Counted.dealt(6, 2), 4);
        for (int k = 0; k < many; k++) {
            x.order("s" + (1 + k % 3));
        }
        return x;
    }

    private static void refusedOfFullLoot() {
        refusedAct("s1", () -> withLoot(24), FULL);
        refusedAct("s4", () -> withLoot(24), FULL);
        refusedAct("s4", () -> withLoot(23), NO);
    }

    private static void refusedOfLastEpoch() {
        for (String text : new String[] {"d1", "d5", "f", "t112", "t512"}) {
            Counted x = Counted.dealt(6, 2);
            x.row(1, 1, 3);
            freshen(x, 199);
            due("act of '" + text + "' in EPOCH 199", FULL, x.order(text));
            due("THE EPOCH is as before", 199, x.count(1));
            due("ORDERS are as before", 200, x.count(5));
            due("THE TEXT is as before", text.length(), x.count(6));
            holds("as before", x, 254, 6, (2 + 199 * 3) % 23);
        }
    }

    // ---- 1 values

    private static void values() {
        sentence("VALUES are 0 to 22, added and multiplied modulo 23.");
        Counted x = Counted.dealt(22, 22, 22, 22, 22);
        holds("the highest VALUES", x, 254, 22, 22, 22, 22, 22);
        due("they add up to 0 at 1, and 18 more", 18, x.member(1, 0));
        Counted none = Counted.dealt(0, 0, 0, 0, 0);
        holds("the lowest VALUES", none, 254, 0, 0, 0, 0, 0);
        Counted lying = Counted.dealt(22);
        lying.bent(1, LIE, 1);
        due("22 and 1", 0, lying.member(1, 1));
        lying.bent(1, LIE, 22);
        due("22 and 22", 21, lying.member(1, 1));

        sentence("SEALS are numbers modulo 47; the SEAL of a VALUE v is 4 to the power of v, modulo 47.");
        for (int v = 0; v <= 22; v++) {
            due("SEAL of " + v, SEALS[v], Counted.dealt(v).seal(0));
            due("SEAL of " + v + ", the last of five", SEALS[v], Counted.dealt(1, 1, 1, 1, v).seal(4));
        }

        sentence("at a number i it is a(0), a(1) times i, a(2) times i times i, and so on, added;");
        for (int j = 0; j <= 4; j++) {
            int[] one = new int[5];
            one[j] = 1;
            holds("a(" + j + ") alone", Counted.dealt(one), 254, one);
            holds("a(" + j + ") is the last", Counted.dealt(Arrays.copyOf(one, j + 1)), 254, Arrays.copyOf(one, j + 1));
        }
        holds("one VALUE", Counted.dealt(13), 254, 13);

        sentence("A VALUE v FITS SEALS at i, if its SEAL is the product, modulo 47, of all SEALS, the one of a(j) to the "
                + "power of i to the power of j.");
        int[] polynomial = {3, 22, 14, 1, 19};
        for (int n = 1; n <= 5; n++) {
            for (int i : new int[] {0, 1, 7, 8, 21, 22}) {
                Counted y = Counted.dealt(Arrays.copyOf(polynomial, n));
                for (int v = 0; v <= 22; v++) {
                    int want = v == at(i, Arrays.copyOf(polynomial, n)) ? 1 : 0;
                    due(v + " at " + i + " of " + n, want, y.fits(v, i));
                }
            }
        }
    }

    private static void members() {
        sentence("MEMBERS are 1 to 7. Each, and the DEALER, 0, has a ROW of five VALUES, r(0) to r(4), 0 at first.");
        Counted x = new Counted();
        for (int who = 0; who <= 7; who++) {
            for (int j = 0; j <= 4; j++) {
                due("r(" + j + ") of " + who, 0, x.row(who, j, 0));
            }
        }
        due("0 has no bends", UNKNOWN, x.bent(0, LIE, 0));
        due("0 is no MEMBER", UNKNOWN, x.member(0, 10));
        due("8 has no ROW", UNKNOWN, x.row(8, 0, 0));
        due("8 is no MEMBER", UNKNOWN, x.member(8, 10));

        sentence("A MEMBER has a SHARE (a VALUE), or none; a LIE (a VALUE, 0 at first), a FOE (a MEMBER, or 0: none, at "
                + "first) and a SLIP (a VALUE, 0 at first), a GRUDGE (a MEMBER, or 0: none, at first), and is one who "
                + "ANSWERS (at first), or not.");
        Counted y = new Counted();
        for (int m = 1; m <= 7; m++) {
            due("SHARE of " + m, NONE, y.member(m, 0));
            for (int what = LIE; what <= GRUDGE; what++) {
                due("bend " + what + " of " + m, 0, y.member(m, 3 + what));
                due("bend " + what + " of " + m + ", which it was", 0, y.bent(m, what, 0));
            }
            due(m + " ANSWERS", 1, y.member(m, 7));
            due(m + " ANSWERS, which it was", 1, y.bent(m, ANSWERS, 1));
        }

        sentence("What it TELLS is its SHARE and its LIE, added.");
        for (int lie = 0; lie <= 22; lie++) {
            Counted z = Counted.dealt(20);
            z.bent(7, LIE, lie);
            due("20 and " + lie, (20 + lie) % 23, z.member(7, 1));
            due("its SHARE", 20, z.member(7, 0));
        }
    }

    private static void weights() {
        sentence("Numbers WEIGH, of some MEMBERS, at a number x: that of m is the product, for all others k of them, of x "
                + "less k, divided by m less k (modulo 23).");
        for (int m = 1; m <= 7; m++) {
            Counted x = new Counted();
            for (int at = 0; at <= 22; at++) {
                due(m + " alone at " + at, 1, x.weighs(m, set(m), at));
                due(m + " of all at " + at, weight(m, 254, at), x.weighs(m, 254, at));
                due(m + " of 1, 7 and itself at " + at, weight(m, set(1, 7, m), at), x.weighs(m, set(1, 7, m), at));
            }
            for (int k = 1; k <= 7; k++) {
                due(m + " at the number of " + k, k == m ? 1 : 0, x.weighs(m, 254, k));
            }
        }
    }

    /** By trying which VALUE, multiplied by what is below, is what is above. */
    private static int weight(int m, int set, int x) {
        int above = 1;
        int below = 1;
        for (int k = 1; k <= 7; k++) {
            if (k != m && (set >> k & 1) == 1) {
                above = Math.floorMod(above * (x - k), 23);
                below = Math.floorMod(below * (m - k), 23);
            }
        }
        int w = 0;
        while (w * below % 23 != above) {
            w++;
        }
        return w;
    }

    // ---- 2 texts

    private static final String RISING = "1?2?3?4?5?6?7?";
    private static final Pattern WHOLE = Pattern.compile("d[1-5]|f|o(?=.)" + RISING + "|w[1-7]|b[1-7](?=.)" + RISING
            + "|t[1-5](?=.)" + RISING + "|s[1-7]");
    private static final Pattern BEGUN = Pattern.compile("|d[1-5]?|f|o" + RISING + "|w[1-7]?|b|b[1-7]" + RISING
            + "|t|t[1-5]" + RISING + "|s[1-7]?");

    private static int faultOf(String text) {
        for (int n = 1; n <= text.length(); n++) {
            if (!BEGUN.matcher(text.substring(0, n)).matches()) {
                return n - 1;
            }
        }
        return WHOLE.matcher(text).matches() ? NONE : text.length();
    }

    private static void faultDue(String text, int want) {
        Counted x = new Counted();
        x.write(text);
        due("the FAULT of '" + text + "'", want, x.fault());
    }

    /** Behind these signs just those of allowed can stand, which end the text or not. */
    private static void canFollow(String begun, String allowed) {
        for (char sign = 33; sign <= 126; sign++) {
            String text = begun + sign;
            boolean can = allowed.indexOf(sign) >= 0;
            faultDue(text, can ? faultOf(text) : begun.length());
            due("'" + text + "' can begin a text", can ? 1 : 0, BEGUN.matcher(text).matches() ? 1 : 0);
        }
    }

    private static void texts() {
        sentence("ORDERS are told by THE TEXT, up to 10 signs: a letter, and figures.");
        canFollow("", "dfowbts");
        Counted x = new Counted();
        for (int n = 1; n <= 10; n++) {
            due("sign " + n, n, x.say('~'));
        }
        due("sign 11", FULL, x.say('~'));

        sentence("What can stand behind the letter: d and one of 1 to 5; f nothing; o, and one MEMBER or more; w and one "
                + "MEMBER; b and one MEMBER, then one MEMBER or more; t and one of 1 to 5, then one MEMBER or more; s and "
                + "one MEMBER.");
        canFollow("d", "12345");
        canFollow("f", "");
        canFollow("o", "1234567");
        canFollow("w", "1234567");
        canFollow("b", "1234567");
        canFollow("t", "12345");
        canFollow("s", "1234567");
        for (char figure = '1'; figure <= '7'; figure++) {
            canFollow("w" + figure, "");
            canFollow("s" + figure, "");
            canFollow("b" + figure, "1234567");
            if (figure <= '5') {
                canFollow("d" + figure, "");
                canFollow("t" + figure, "1234567");
            }
        }

        sentence("MEMBERS (1 to 7) after one another must rise (of b those behind the first one).");
        for (String begun : new String[] {"o", "b1", "b7", "t1", "t5"}) {
            for (int m = 1; m <= 7; m++) {
                canFollow(begun + m, "1234567".substring(m));
            }
            canFollow(begun + "123456", "7");
            canFollow(begun + "1234567", "");
        }

        sentence("The FAULT: the place (the first sign is at 0) of the first sign by which no such text can begin that has "
                + "all signs before it, too; how many signs it has, if it is the beginning of such a text, but none.");
        faultDue("", 0);
        faultDue("x", 0);
        faultDue("xd1", 0);
        faultDue("d", 1);
        faultDue("d9", 1);
        faultDue("d91", 1);
        faultDue("b3", 2);
        faultDue("b33", NONE);
        faultDue("b332", 3);
        faultDue("b332567", 3);
        faultDue("t512345678", 9);
        faultDue("b712345677", 9);
        faultDue("o123456789", 8);
        faultDue("o111111111", 2);
        String signs = "dfowbts01234567890x";
        for (int a = 0; a < signs.length(); a++) {
            for (int b = 0; b < signs.length(); b++) {
                for (int c = 0; c < signs.length(); c++) {
                    String text = "" + signs.charAt(a) + signs.charAt(b) + signs.charAt(c);
                    faultDue(text, faultOf(text));
                }
            }
        }
    }

    // ---- 2 orders

    private static void namedByOrders() {
        sentence("For each ORDER that is done the LIARS are named, a set, and the STRUCK, a set (both empty, if nothing else "
                + "is told).");
        for (String text : new String[] {"d5", "w4", "s1", "b7345", "o3456", "f", "t1345"}) {
            Counted x = without(Counted.dealt(3, 8), 7);
            x.bent(2, LIE, 4);
            x.order("o123");
            names("ahead of " + text, x, set(2), 0);
            due(text + " is done", 1, x.order(text) >= 0 ? 1 : 0);
            names("behind " + text, x, 0, 0);
        }
        Counted struck = without(Counted.dealt(3, 8), 7);
        struck.bent(3, GRUDGE, 2);
        struck.bent(3, LIE, 1);
        struck.bent(5, GRUDGE, 4);
        struck.bent(4, ANSWERS, 0);
        struck.order("f");
        names("f names both", struck, set(3), set(4));
        struck.order("o3");
        names("o names LIARS alone", struck, set(3), 0);
        struck.order("d2");
        struck.order("t3234567");
        names("t names both", struck, set(3), set(4));
        struck.order("w1");
        names("w names nobody", struck, 0, 0);
    }

    private static void dealAndWipe() {
        sentence("THE SEALS are those of the POLYNOMIAL r(0) to r(n less 1) of the DEALER, each MEMBER's SHARE is what this "
                + "is at its number;");
        int[] values = {21, 1, 22, 8, 17};
        for (int n = 1; n <= 5; n++) {
            Counted x = new Counted();
            x.fill(0, values);
            x.fill(1, 9, 9, 9, 9, 9);
            due("d" + n, 1, x.order("d" + n));
            holds("d" + n, x, 254, Arrays.copyOf(values, n));
        }
        Counted fewer = Counted.dealt(values);
        fewer.order("d1");
        holds("d1 behind d5", fewer, 254, 21);
        fewer.order("d5");
        holds("d5 behind d1", fewer, 254, values);
        holds("nobody had one before", redealt(1, 2, 3, 4, 5, 6, 7), 254, 4, 5);
        holds("some had one before", redealt(1, 7), 254, 4, 5);

        sentence("THE EPOCH is 0 if nothing was dealt before, else one more. It comes to 1. (EPOCHS are 0 to 199.)");
        Counted y = new Counted();
        y.image(0);
        due("none before", NONE, y.count(1));
        due("the first", 1, y.order("d2"));
        due("the first EPOCH", 0, y.count(1));
        due("the second", 1, y.order("d2"));
        due("one more", 1, y.count(1));
        y.restore(0);
        y.order("d2");
        due("as if nothing was dealt before", 0, y.count(1));
        for (String text : new String[] {"d2", "f", "t21"}) {
            Counted last = Counted.dealt(8);
            freshen(last, 198);
            due("EPOCH 198", 198, last.count(1));
            due(text + " in EPOCH 198", text.equals("d2") ? 1 : 7, last.order(text));
            due("EPOCH 199", 199, last.count(1));
            due(text + " in EPOCH 199", FULL, last.order(text));
            due("EPOCH 199 stays", 199, last.count(1));
        }

        sentence("w m, WIPE: MEMBER m has no SHARE any more. It comes to how many have one.");
        Counted z = Counted.dealt(4, 5);
        for (int m = 1; m <= 7; m++) {
            due("w" + m, 7 - m, z.order("w" + m));
            due("w" + m + " once more", 7 - m, z.order("w" + m));
            due(m + " has none", NONE, z.member(m, 0));
        }
        due("all of these are done", 15, z.count(5));
        due("THE EPOCH stays", 0, z.count(1));
    }

    private static Counted redealt(int... wiped) {
        Counted x = without(Counted.dealt(4, 5), wiped);
        x.order("d2");
        return x;
    }

    private static void open() {
        sentence("those of M that have a SHARE TELL; LIARS are all whose VALUE does not FIT THE SEALS at its number.");
        Counted x = without(Counted.dealt(11, 3), 2);
        x.bent(2, LIE, 5);
        x.bent(3, LIE, 22);
        x.bent(7, LIE, 1);
        due("2 TELLS nothing", 11, x.order("o1234"));
        names("only who has a SHARE", x, set(3), 0);
        due("7 is not of M", 11, x.order("o1456"));
        names("nobody", x, 0, 0);
        due("the lowest and the highest LIE", 11, x.order("o13467"));
        names("both", x, set(3, 7), 0);

        sentence("If the others are no fewer than THE THRESHOLD: it comes to the VALUES that the first of these TELL, as "
                + "many as THE THRESHOLD, each times what it WEIGHS at 0, added; else NO.");
        int[] values = {19, 4, 22, 10, 6};
        String all = "1234567";
        for (int n = 1; n <= 5; n++) {
            Counted y = Counted.dealt(Arrays.copyOf(values, n));
            due("as many as " + n, 19, y.order("o" + all.substring(7 - n)));
            due("one more than " + n, 19, y.order("o" + all.substring(6 - n)));
            due("all, of " + n, 19, y.order("o" + all));
            if (n > 1) {
                due("one fewer than " + n, NO, y.order("o" + all.substring(0, n - 1)));
            }
            y.bent(1, LIE, 1);
            due("one LIAR too many of " + n, NO, y.order("o" + all.substring(0, n)));
            names("it is named all the same", y, set(1), 0);
            due("a LIAR, and as many others as " + n, 19, y.order("o" + all.substring(0, n + 1)));
            y.order("w1");
            due("one without a SHARE too many of " + n, NO, y.order("o" + all.substring(0, n)));
            names("nobody", y, 0, 0);
        }
        Counted liars = Counted.dealt(5);
        for (int m = 1; m <= 7; m++) {
            liars.bent(m, LIE, m);
        }
        due("all are LIARS", NO, liars.order("o1234567"));
        names("all", liars, 254, 0);
        due("nobody has one", NO, without(Counted.dealt(5), 1, 2, 3, 4, 5, 6, 7).order("o1234567"));
    }

    private static void rebuild() {
        sentence("b m M.., REBUILD: MEMBER m must have no SHARE (NO, ahead of all else).");
        Counted x = Counted.dealt(11, 3);
        x.bent(2, LIE, 5);
        x.bent(3, LIE, 5);
        due("it has one, and all would be well", NO, x.order("b145"));
        due("it has one, and others lie", NO, x.order("b123"));
        names("nobody is asked", x, 0, 0);

        sentence("Those of M that have a SHARE TELL, LIARS are named as when it is OPENED; its SHARE is made likewise, by "
                + "what is WEIGHED at m; it comes to 1. Else NO (LIARS are named all the same).");
        int[] values = {19, 4, 22, 10, 6};
        for (int n = 1; n <= 5; n++) {
            for (int m = 1; m <= 7; m++) {
                Counted y = without(Counted.dealt(Arrays.copyOf(values, n)), m);
                String others = "1234567".replace("" + m, "");
                if (n > 1) {
                    due("one fewer than " + n, NO, y.order("b" + m + others.substring(0, n - 1)));
                    due("it has none", NONE, y.member(m, 0));
                }
                due("as many as " + n, 1, y.order("b" + m + others.substring(6 - n)));
                holds("rebuilt " + m, y, 254, Arrays.copyOf(values, n));
            }
        }
        Counted own = without(Counted.dealt(11, 3), 4);
        due("itself alone", NO, own.order("b44"));
        due("itself does not count", NO, own.order("b434"));
        own.bent(4, LIE, 1);
        due("itself and enough others", 1, own.order("b4345"));
        names("who has no SHARE yet is no LIAR", own, 0, 0);
        due("it is the SHARE, not what it TELLS", at(4, 11, 3), own.member(4, 0));
        Counted later = without(Counted.dealt(11, 3), 4);
        later.row(1, 1, 22);
        later.order("f");
        due("what it had is of another EPOCH", 1, later.order("b456"));
        holds("it is of this EPOCH", later, 254, 11, 2);
        Counted lying = without(Counted.dealt(11, 3), 4);
        lying.bent(1, LIE, 9);
        due("a LIAR too many", NO, lying.order("b412"));
        names("it is named all the same", lying, set(1), 0);
        due("a LIAR and enough others", 1, lying.order("b4123"));
        names("it is named", lying, set(1), 0);
        due("THE EPOCH stays", 0, lying.count(1));
    }

    private static void steal() {
        sentence("s m, STEAL: MEMBER m's SHARE, its number, THE EPOCH are one more LOOT: it comes to how many there are. NO: "
                + "it has no SHARE; FULL: there are 24.");
        Counted x = without(Counted.dealt(6, 2), 4);
        x.bent(3, LIE, 5);
        due("it has none", NO, x.order("s4"));
        due("no LOOT", 0, x.count(4));
        for (int n = 1; n <= 24; n++) {
            due("LOOT " + n, n, x.order("s3"));
        }
        due("the SHARE, not what it TELLS", 12, x.loot(23, 2));
        due("LOOT 25", FULL, x.order("s3"));
        due("they stay 24", 24, x.count(4));
        due("there is no LOOT 24", NONE, x.loot(24, 0));
        due("3 still has its SHARE", 12, x.member(3, 0));

        Counted y = withLoot(23);
        y.image(0);
        due("the last", 24, y.order("s1"));
        due("full", FULL, y.order("s1"));
        y.restore(0);
        due("room again", 24, y.order("s2"));
        due("full again", FULL, y.order("s2"));
        y.order("d1");
        due("a new EPOCH makes no room", FULL, y.order("s2"));
    }

    // ---- 3 orders

    private static void fresh() {
        sentence("f, FRESH: for each MEMBER m that has a SHARE, by rising numbers: a POLYNOMIAL, 0, then r(1), r(2), .. of "
                + "its ROW, as many VALUES as THE THRESHOLD tells; it is SPREAD to all that have a SHARE. If it is not "
                + "STRUCK, it is TAKEN.");
        int[] values = {20, 22, 1, 0, 13};
        for (int n = 1; n <= 5; n++) {
            Counted x = Counted.dealt(Arrays.copyOf(values, n));
            x.fill(1, 9, 22, 22, 22, 22);
            x.fill(7, 9, 2, 3, 4, 5);
            due("f of THRESHOLD " + n, 7, x.order("f"));
            int[] want = {20, (22 + 22 + 2) % 23, (1 + 22 + 3) % 23, (22 + 4) % 23, (13 + 22 + 5) % 23};
            holds("f of THRESHOLD " + n, x, 254, Arrays.copyOf(want, n));
        }
        Counted gone = without(Counted.dealt(20, 5), 7);
        gone.row(7, 1, 8);
        gone.row(6, 1, 4);
        due("7 has none", 6, gone.order("f"));
        holds("7 SPREADS nothing", gone, 254 - set(7), 20, 9);

        sentence("At the end: THE SEALS are multiplied, one by one, by those of all that are TAKEN; each SHARE has all of "
                + "them, at its number, added to it; THE EPOCH is one more; those that are STRUCK have no SHARE then. It "
                + "comes to how many have one.");
        Counted nobody = without(Counted.dealt(20, 5), 1, 2, 3, 4, 5, 6, 7);
        nobody.row(1, 1, 8);
        due("nobody has one", 0, nobody.order("f"));
        due("THE EPOCH is one more", 1, nobody.count(1));
        holds("THE SEALS are multiplied by none", nobody, 0, 20, 5);
        Counted alone = without(Counted.dealt(20, 5), 1, 2, 3, 4, 5, 6);
        alone.row(7, 1, 18);
        due("one has one", 1, alone.order("f"));
        holds("one has one", alone, set(7), 20, 0);
        Counted all = Counted.dealt(20, 5);
        for (int m = 1; m <= 7; m++) {
            all.row(m, 1, m);
            all.bent(m, FOE, 8 - m);
            all.bent(m, SLIP, 1);
            all.bent(m, ANSWERS, 0);
        }
        due("all are STRUCK", 0, all.order("f"));
        names("all are STRUCK", all, 0, 254);
        holds("none is TAKEN", all, 0, 20, 5);
        due("THE EPOCH is one more all the same", 1, all.count(1));
        due("f is done", 2, all.count(5));
        Counted twice = Counted.dealt(20, 5);
        twice.row(2, 1, 3);
        twice.row(3, 1, 4);
        due("all are TAKEN", 7, twice.order("f"));
        twice.bent(2, ANSWERS, 0);
        twice.bent(1, GRUDGE, 2);
        due("2 is not TAKEN again", 6, twice.order("f"));
        holds("2 is not TAKEN again", twice, 254 - set(2), 20, 5 + 3 + 4 + 4);
    }

    private static void spread() {
        sentence("each MEMBER i of those that have a SHARE is sent what it is at i; the FOE of m the SLIP of m more.");
        for (int slip : new int[] {1, 22}) {
            for (int foe = 1; foe <= 7; foe++) {
                Counted x = bentSender(foe, slip);
                due("slip " + slip + " to " + foe, 6, x.order("f"));
                names("slip " + slip + " to " + foe, x, 0, set(2));
            }
        }
        due("a SLIP of 0", 7, bentSender(5, 0).order("f"));
        due("no FOE", 7, bentSender(0, 22).order("f"));
        due("a FOE without a SHARE", 6, without(bentSender(5, 22), 5).order("f"));
        for (int n = 1; n <= 5; n++) {
            Counted x = bentSender(7, 1);
            x.order("d" + n);
            due("THRESHOLD " + n, 6, x.order("f"));
        }
        // 2 sends 22 to 1, and the SLIP makes a 0 of it
        Counted wrapped = bentSender(1, 1);
        wrapped.row(2, 1, 22);
        due("22 and a SLIP of 1", 6, wrapped.order("f"));

        sentence("By rising numbers each i COMPLAINS, if what it is sent does not FIT its SEALS at i, or m is its GRUDGE.");
        for (int m = 1; m <= 7; m++) {
            Counted x = Counted.dealt(3, 8);
            x.bent(m, GRUDGE, 2);
            x.bent(2, ANSWERS, 0);
            due("the GRUDGE of " + m, 6, x.order("f"));
            names("the GRUDGE of " + m, x, 0, set(2));
        }
        Counted none = Counted.dealt(3, 8);
        none.bent(4, GRUDGE, 2);
        none.bent(4, GRUDGE, 0);
        none.bent(2, ANSWERS, 0);
        due("no GRUDGE", 7, none.order("f"));
        names("no GRUDGE", none, 0, 0);
        Counted gone = without(Counted.dealt(3, 8), 4);
        gone.bent(4, GRUDGE, 2);
        gone.bent(2, ANSWERS, 0);
        due("who has no SHARE does not COMPLAIN", 6, gone.order("f"));
        names("who has no SHARE does not COMPLAIN", gone, 0, 0);
        Counted target = without(Counted.dealt(3, 8), 2);
        target.bent(4, GRUDGE, 2);
        due("who has no SHARE is not COMPLAINED of", 6, target.order("f"));
        names("who has no SHARE is not COMPLAINED of", target, 0, 0);

        sentence("If any COMPLAINS, and m does not ANSWER, m is STRUCK; else each has what is right, and those that "
                + "COMPLAINED of what did FIT are LIARS.");
        spreadEnds();
    }

    /** 2 slips to a FOE and does not ANSWER. */
    private static Counted bentSender(int foe, int slip) {
        Counted x = Counted.dealt(3, 8, 0, 0, 0);
        x.order("d2");
        x.fill(2, 7, 11, 6, 6, 6);
        x.bent(2, FOE, foe);
        x.bent(2, SLIP, slip);
        x.bent(2, ANSWERS, 0);
        return x;
    }

    private static void spreadEnds() {
        Counted answers = bentSender(5, 4);
        answers.bent(2, ANSWERS, 1);
        answers.bent(5, GRUDGE, 2);
        answers.bent(6, GRUDGE, 2);
        answers.bent(7, GRUDGE, 2);
        due("2 ANSWERS", 7, answers.order("f"));
        names("who COMPLAINED of what did FIT", answers, set(6, 7), 0);
        holds("each has what is right", answers, 254, 3, 19);
        Counted struck = bentSender(5, 4);
        struck.bent(6, GRUDGE, 2);
        due("2 does not ANSWER", 6, struck.order("f"));
        names("2 is STRUCK, nobody is a LIAR", struck, 0, set(2));
        holds("2 is not TAKEN", struck, 254 - set(2), 3, 8);
        Counted silent = bentSender(0, 0);
        due("nobody COMPLAINS of who does not ANSWER", 7, silent.order("f"));
        names("nobody COMPLAINS", silent, 0, 0);
        holds("2 is TAKEN", silent, 254, 3, 19);
        Counted both = bentSender(0, 0);
        both.bent(6, GRUDGE, 2);
        both.bent(2, GRUDGE, 6);
        both.bent(6, ANSWERS, 0);
        due("who is STRUCK has its SHARE till the end", 5, both.order("f"));
        names("and COMPLAINS till then", both, 0, set(2, 6));
    }

    private static void move() {
        sentence("t n M.., MOVE: for each of M that has a SHARE, by rising numbers, till as many as THE THRESHOLD are TAKEN: "
                + "a POLYNOMIAL, what it TELLS, then r(1), .. of its ROW, n VALUES in all;");
        int[] values = {20, 22, 1, 0, 13};
        for (int from = 1; from <= 5; from++) {
            for (int to = 1; to <= 5; to++) {
                Counted x = Counted.dealt(Arrays.copyOf(values, from));
                int[] want = {20, 0, 0, 0, 0};
                int taken = 254 & (1 << from + 1) - 1;
                for (int m = 1; m <= 7; m++) {
                    x.fill(m, 9, 22, m, 0, 3 * m);
                    int w = m <= from ? weight(m, taken, 0) : 0;
                    want[1] += w * 22;
                    want[2] += w * m;
                    want[4] += w * 3 * m;
                }
                for (int j = 0; j < 5; j++) {
                    want[j] %= 23;
                }
                due("from " + from + " to " + to, 7, x.order("t" + to + "1234567"));
                holds("from " + from + " to " + to, x, 254, Arrays.copyOf(want, to));
                due("THE EPOCH is one more", 1, x.count(1));
            }
        }
        Counted behind = Counted.dealt(3, 8);
        behind.bent(3, LIE, 1);
        behind.bent(4, ANSWERS, 0);
        behind.bent(5, GRUDGE, 4);
        due("two are TAKEN", 7, behind.order("t21234567"));
        names("those behind them are not asked", behind, 0, 0);

        sentence("it is a LIAR if the first VALUE does not FIT THE SEALS at its number; else it is SPREAD to all that have a "
                + "SHARE, and if not STRUCK it is TAKEN.");
        Counted liar = Counted.dealt(3, 8);
        liar.bent(1, LIE, 22);
        liar.bent(1, ANSWERS, 0);
        liar.bent(7, GRUDGE, 1);
        liar.bent(2, ANSWERS, 0);
        liar.bent(6, GRUDGE, 2);
        liar.bent(5, GRUDGE, 3);
        due("one lies, one is STRUCK, two are TAKEN", 6, liar.order("t11234"));
        names("a LIAR SPREADS nothing", liar, set(1, 5), set(2));
        holds("the two that are TAKEN", liar, 254 - set(2), 3);

        sentence("If fewer are TAKEN: NO, and nothing is changed (LIARS and STRUCK are named all the same).");
        moveOfFewer();

        sentence("THE THRESHOLD is n; THE EPOCH is one more; those that are STRUCK have no SHARE then. It comes to how many "
                + "have one.");
        Counted few = without(Counted.dealt(3, 8), 1, 2, 3, 4);
        few.bent(5, ANSWERS, 0);
        few.bent(7, FOE, 5);
        few.bent(7, SLIP, 1);
        few.bent(5, FOE, 7);
        few.bent(5, SLIP, 1);
        due("6 and 7 are TAKEN", 2, few.order("t5567"));
        due("more are needed than have one", 5, few.count(0));
        due("who has one", set(6, 7), few.count(3));
        names("5 is STRUCK", few, 0, set(5));
        due("nobody can open it", NO, few.order("o1234567"));
        due("nor move it", NO, few.order("t11234567"));
    }

    private static void moveOfFewer() {
        int[] values = {20, 22, 1, 0, 13};
        for (int n = 1; n <= 5; n++) {
            Counted x = Counted.dealt(Arrays.copyOf(values, n));
            x.fill(1, 9, 8, 7, 6, 5);
            if (n > 1) {
                due("one fewer than " + n, NO, x.order("t3" + "1234567".substring(0, n - 1)));
                names("nobody", x, 0, 0);
            }
            x.bent(1, LIE, 1);
            due("a LIAR too many of " + n, NO, x.order("t3" + "1234567".substring(0, n)));
            names("it is named all the same", x, set(1), 0);
            x.bent(1, LIE, 0);
            x.bent(1, ANSWERS, 0);
            x.bent(7, GRUDGE, 1);
            due("one STRUCK too many of " + n, NO, x.order("t3" + "1234567".substring(0, n)));
            names("it is named all the same", x, 0, set(1));
            holds("it keeps its SHARE", x, 254, Arrays.copyOf(values, n));
            due("THE EPOCH stays", 0, x.count(1));
            due("no EPOCH more", OUTSIDE, x.count(11));
            due("no ORDER more", 1, x.count(5));
            due("THE TEXT stays", 2 + n, x.count(6));
            due("one more than " + n, 6, x.order("t3" + "1234567".substring(0, n + 1)));
            due("then it has none", NONE, x.member(1, 0));
        }
        Counted nobody = without(Counted.dealt(5), 1, 2);
        due("nobody of M has one", NO, nobody.order("t112"));
        names("nobody of M has one", nobody, 0, 0);
    }

    private static void movedShares() {
        sentence("Else: each SHARE is what all POLYNOMIALS that are TAKEN are at its number, each times what its MEMBER "
                + "WEIGHS at 0 among those TAKEN, added; THE SEALS are, one by one, theirs to the power of these, "
                + "multiplied;");
        // 1 and 2 WEIGH 2 and 22 at 0, 6 and 7 WEIGH 7 and 17, so all sums go round the end
        Counted low = Counted.dealt(22, 22);
        low.row(1, 1, 22);
        low.row(2, 1, 21);
        due("1 and 2", 7, low.order("t212"));
        holds("1 and 2", low, 254, 22, (2 * 22 + 22 * 21) % 23);
        Counted high = without(Counted.dealt(22, 22), 1);
        high.row(6, 1, 22);
        high.row(7, 1, 22);
        high.row(7, 4, 1);
        due("6 and 7", 6, high.order("t567"));
        holds("6 and 7", high, 254 - set(1), 22, (7 + 17) * 22 % 23, 0, 0, 17);
        Counted one = Counted.dealt(22);
        one.row(7, 1, 22);
        due("one alone", 7, one.order("t27"));
        holds("one alone", one, 254, 22, 22);
        Counted old = Counted.dealt(5, 1, 2, 3, 4);
        due("nothing of what was", 7, old.order("t534567"));
        holds("nothing of what was", old, 254, 5, 0, 0, 0, 0);
    }

    // ---- promises 1 to 4

    private static void newObject() {
        sentence("Nothing was dealt; no LOOT, no IMAGE; THE TEXT is empty.");
        Counted x = new Counted();
        due("no THRESHOLD", NONE, x.count(0));
        due("no EPOCH", NONE, x.count(1));
        due("nobody has a SHARE", 0, x.count(2));
        due("the empty set", 0, x.count(3));
        due("no SEAL", STATE, x.seal(0));
        due("no EPOCH 0", OUTSIDE, x.count(10));
        due("no LOOT", 0, x.count(4));
        due("no first LOOT", NONE, x.loot(0, 0));
        due("no ORDER was done", 0, x.count(5));
        due("no IMAGE", 0, x.count(7));
        due("no IMAGE 0", NO, x.restore(0));
        due("no IMAGE 1", NO, x.restore(1));
        due("no sign", 0, x.count(6));
        due("the FAULT of no sign", 0, x.fault());
        due("no sign to wipe", 0, x.wipe());
        due("no ORDER to do", FAULT, x.act());
        names("nobody", x, 0, 0);
    }

    private static void rowAndBent() {
        sentence("VALUE j (0 to 4) of the ROW of a MEMBER, or of the DEALER (0), is v: which it was. UNKNOWN; OUTSIDE: j, "
                + "v.");
        for (int who = -1; who <= 8; who++) {
            for (int j = -1; j <= 5; j++) {
                Counted x = new Counted();
                for (int v = -1; v <= 23; v++) {
                    boolean told = j >= 0 && j <= 4 && v >= 0 && v <= 22;
                    int want = who < 0 || who > 7 ? UNKNOWN : told ? Math.max(0, v - 1) : OUTSIDE;
                    due("row(" + who + ", " + j + ", " + v + ")", want, x.row(who, j, v));
                }
            }
        }

        sentence("A MEMBER's LIE (what = 0), SLIP (1), FOE (2; 0: none), GRUDGE (3; 0: none), whether it ANSWERS (4: 1, 0) "
                + "is n: which it was. UNKNOWN; OUTSIDE: both.");
        int[] highest = {22, 22, 7, 7, 1};
        for (int m = -1; m <= 8; m++) {
            for (int what = -1; what <= 5; what++) {
                Counted x = new Counted();
                for (int n = -1; n <= 24; n++) {
                    boolean told = what >= 0 && what <= 4 && n >= 0 && n <= highest[what];
                    int before = n == 0 ? what == ANSWERS ? 1 : 0 : n - 1;
                    int want = m < 1 || m > 7 ? UNKNOWN : told ? before : OUTSIDE;
                    due("bent(" + m + ", " + what + ", " + n + ")", want, x.bent(m, what, n));
                }
            }
        }
    }

    private static void memberCall() {
        sentence("Of a MEMBER: its SHARE (what = 0; NONE), what it TELLS (1; NONE), whether that FITS THE SEALS (2: 1, 0; "
                + "NONE), LIE, SLIP, FOE, GRUDGE, whether it ANSWERS (3 to 7), VALUES of its ROW (10 to 14). UNKNOWN; "
                + "OUTSIDE.");
        Counted x = Counted.dealt(21, 1);
        x.fill(2, 5, 6, 7, 8, 9);
        int[] bends = {4, 3, 2, 1, 0};
        for (int what = LIE; what <= ANSWERS; what++) {
            x.bent(2, what, bends[what]);
        }
        int[] want = {0, 4, 0, 4, 3, 2, 1, 0, OUTSIDE, OUTSIDE, 5, 6, 7, 8, 9, OUTSIDE};
        for (int what = 0; what < want.length; what++) {
            due("member(2, " + what + ")", want[what], x.member(2, what));
            due("member(0, " + what + ")", UNKNOWN, x.member(0, what));
            due("member(8, " + what + ")", UNKNOWN, x.member(8, what));
        }
        due("member(2, -1)", OUTSIDE, x.member(2, -1));
        due("member(2, LOW)", OUTSIDE, x.member(2, LOW));
        due("member(2, HIGH)", OUTSIDE, x.member(2, HIGH));
        due("a SHARE of 0 is one", 0, x.member(2, 0));
        x.bent(2, LIE, 0);
        due("it FITS", 1, x.member(2, 2));
        x.order("w2");
        Counted never = new Counted();
        for (int what = 0; what <= 2; what++) {
            due("wiped", NONE, x.member(2, what));
            due("nothing was dealt", NONE, never.member(7, what));
        }
        due("its ROW stays", 9, x.member(2, 14));
        due("its bends stay", 3, x.member(2, 4));
    }

    // ---- promises 5 to 9

    private static void sayWipeFault() {
        sentence("A sign more of THE TEXT: how many. OUTSIDE: it is not 33 to 126; FULL.");
        for (int sign = 0; sign <= 300; sign++) {
            due("say(" + sign + ")", sign >= 33 && sign <= 126 ? 1 : OUTSIDE, new Counted().say(sign));
        }
        for (int sign : new int[] {-1, -100, LOW, LOW + 100, HIGH, 65536 + 100, 256 * 256 * 256 + 100}) {
            due("say(" + sign + ")", OUTSIDE, new Counted().say(sign));
        }
        Counted x = new Counted();
        x.write("o234567xyz");
        due("an eleventh", FULL, x.say('1'));
        due("the tenth is not lost", 7, x.fault());

        sentence("THE TEXT is empty: how many signs it had.");
        due("ten", 10, x.wipe());
        due("none", 0, x.wipe());
        due("room again", 1, x.say('f'));
        due("nothing of what was wiped", NONE, x.fault());
        due("one", 1, x.wipe());
        due("it begins with no sign", 0, x.fault());

        sentence("The FAULT of THE TEXT; NONE: it has none.");
        Counted y = new Counted();
        String text = "b71234567";
        for (int n = 0; n < text.length(); n++) {
            due("FAULT behind " + n + " signs", n < 3 ? n : NONE, y.fault());
            y.say(text.charAt(n));
        }
        due("the longest text", NONE, y.fault());
        y.say('7');
        due("a sign too many", 9, y.fault());
        due("asking again", 9, y.fault());
    }

    private static void act() {
        sentence("The ORDER that THE TEXT tells is done (THE TEXT is empty then, if it is not refused): what it comes to.");
        Counted x = Counted.dealt(0, 0);
        for (String text : new String[] {"d2", "f", "o12", "w1", "b123", "t212", "s1"}) {
            int want = text.equals("o12") ? 0 : text.equals("f") || text.equals("t212") ? 7 : text.equals("w1") ? 6 : 1;
            due(text, want, x.order(text));
            due("THE TEXT is empty behind " + text, 0, x.count(6));
            due("the empty text is none", FAULT, x.act());
        }
        due("so many are done", 8, x.count(5));
        for (String text : new String[] {"o1", "b112", "t11", "d6"}) {
            x.order(text);
            due("THE TEXT stays behind " + text, text.length(), x.count(6));
        }
        due("nothing more is done", 8, x.count(5));
        x.write("o1");
        x.act();
        x.say('2');
        due("what was refused can be told further", 0, x.act());

        sentence("FAULT; STATE: it is not d, and nothing was dealt; FULL: d, f, t, if THE EPOCH is 199, s (ahead of NO); "
                + "NO.");
        for (String text : new String[] {"f", "o1", "w1", "b12", "t11", "s1"}) {
            due(text + ", nothing was dealt", STATE, new Counted().order(text));
        }
        due("d1, nothing was dealt", 1, new Counted().order("d1"));
        Counted last = without(Counted.dealt(6, 2), 4);
        last.image(0);
        freshen(last, 199);
        for (String text : new String[] {"d1", "f", "t112", "t11", "t14"}) {
            due(text + " in EPOCH 199", FULL, last.order(text));
        }
        due("o in EPOCH 199", 6, last.order("o12"));
        due("b in EPOCH 199", 1, last.order("b412"));
        due("w in EPOCH 199", 6, last.order("w4"));
        due("NO of s in EPOCH 199", NO, last.order("s4"));
        due("s in EPOCH 199", 1, last.order("s1"));
        last.restore(0);
        due("f behind the IMAGE of EPOCH 0", 6, last.order("f"));
        due("EPOCH 1", 1, last.count(1));
        Counted full = withLoot(24);
        due("s of who has none, 24 LOOTS", FULL, full.order("s4"));
        due("s of who has one, 24 LOOTS", FULL, full.order("s1"));
        due("f, 24 LOOTS", 6, full.order("f"));
    }

    /** An object whose last ORDER, one that was refused, named LIARS and STRUCK. */
    private static void nameSome(Counted x) {
        x.bent(1, LIE, 1);
        x.bent(2, ANSWERS, 0);
        x.bent(3, GRUDGE, 2);
        x.order("t212");
    }

    private static void named() {
        sentence("Of the last ORDER that was told without a FAULT, refused or not: LIARS (what = 0), STRUCK (1), sets; both "
                + "empty, if it was refused by STATE or FULL. OUTSIDE.");
        Counted x = new Counted();
        names("none was told", x, 0, 0);
        x.order("f");
        names("refused by STATE", x, 0, 0);
        x.fill(0, 3, 8);
        x.order("d2");
        nameSome(x);
        names("refused by NO", x, set(1), set(2));
        for (String text : new String[] {"", "o", "x", "d6", "t212!"}) {
            due("a FAULT", FAULT, x.order(text));
            names("a FAULT, '" + text + "'", x, set(1), set(2));
        }
        x.write("w7");
        names("said, not told", x, set(1), set(2));
        for (String text : new String[] {"s1", "w7", "s7", "o345", "b7345", "b7345", "d2"}) {
            nameSome(x);
            names("once more", x, set(1), set(2));
            x.order(text);
            names("behind " + text, x, 0, 0);
        }
        for (int what : new int[] {-1, 2, LOW, HIGH}) {
            due("named(" + what + ")", OUTSIDE, x.named(what));
        }
        Counted full = withLoot(24);
        for (String text : new String[] {"s1", "s4"}) {
            nameSome(full);
            names("ahead of " + text, full, set(1), set(2));
            due(text, FULL, full.order(text));
            names("refused by FULL, " + text, full, 0, 0);
        }
        Counted last = Counted.dealt(3, 8);
        freshen(last, 198);
        last.bent(1, LIE, 1);
        last.bent(2, ANSWERS, 0);
        last.bent(3, GRUDGE, 2);
        due("EPOCH 199 comes", 6, last.order("f"));
        names("2 is STRUCK", last, 0, set(2));
        due("f once more", FULL, last.order("f"));
        names("nobody is STRUCK by what is refused", last, 0, 0);
        for (String text : new String[] {"f", "d1", "t11", "t1134"}) {
            last.order("o13");
            names("1 is a LIAR", last, set(1), 0);
            due(text, FULL, last.order(text));
            names("refused by FULL, " + text, last, 0, 0);
        }
    }

    // ---- promises 10 to 12

    private static void fitsAndSeal() {
        sentence("Whether a VALUE FITS THE SEALS at a number, 0 to 22 (1, 0). OUTSIDE: both; STATE.");
        Counted x = Counted.dealt(22, 1);
        Counted none = new Counted();
        due("lowest", 0, x.fits(0, 0));
        due("lowest number", 1, x.fits(22, 0));
        due("highest number", 1, x.fits(21, 22));
        due("round the end", 1, x.fits(0, 1));
        due("highest of both", 0, x.fits(22, 22));
        due("nothing was dealt", STATE, none.fits(22, 22));
        due("nothing was dealt", STATE, none.fits(0, 0));
        for (int n : new int[] {-1, 23, LOW, HIGH}) {
            due("fits(" + n + ", 0)", OUTSIDE, x.fits(n, 0));
            due("fits(0, " + n + ")", OUTSIDE, x.fits(0, n));
            due("nothing was dealt, fits(" + n + ", 0)", OUTSIDE, none.fits(n, 0));
            due("nothing was dealt, fits(0, " + n + ")", OUTSIDE, none.fits(0, n));
        }

        sentence("The j-th of THE SEALS, from 0 on; NONE: there is none such. STATE.");
        int[] values = {22, 0, 7, 1, 15};
        for (int n = 1; n <= 5; n++) {
            Counted y = Counted.dealt(Arrays.copyOf(values, n));
            for (int j : new int[] {LOW, -1, 0, 1, 2, 3, 4, 5, 6, HIGH}) {
                due("seal(" + j + ") of " + n, j >= 0 && j < n ? SEALS[values[j]] : NONE, y.seal(j));
            }
        }
        for (int j : new int[] {LOW, -1, 0, 4, 5, HIGH}) {
            due("nothing was dealt, seal(" + j + ")", STATE, none.seal(j));
        }
        Counted again = Counted.dealt(values);
        again.order("t112345");
        due("a lower THRESHOLD", NONE, again.seal(1));
    }

    private static void weighs() {
        sentence("What a MEMBER of a set of MEMBERS WEIGHS among them at a number, 0 to 22.");
        Counted x = new Counted();
        due("nothing was dealt", 2, x.weighs(1, set(1, 2), 0));
        due("at 22", weight(3, set(3, 7), 22), x.weighs(3, set(3, 7), 22));
        due("the highest set", weight(7, 254, 22), x.weighs(7, 254, 22));
        due("the lowest set", 1, x.weighs(1, 2, 0));

        sentence("UNKNOWN: it is not of the set; OUTSIDE: the number, or the set has bits other than 1 to 7 (ahead of "
                + "UNKNOWN).");
        due("the empty set", UNKNOWN, x.weighs(1, 0, 0));
        for (int m : new int[] {0, -1, 8, 9, 32 + 1, 64 + 7, -31, LOW, LOW + 1, HIGH}) {
            due(m + " of all", UNKNOWN, x.weighs(m, 254, 0));
        }
        for (int m = 1; m <= 7; m++) {
            due(m + " of the others", UNKNOWN, x.weighs(m, 254 - set(m), 0));
        }
        for (int bit = 0; bit <= 31; bit++) {
            boolean allowed = bit >= 1 && bit <= 7;
            due("bit " + bit + ", and 1", allowed ? weight(1, 2 | 1 << bit, 0) : OUTSIDE, x.weighs(1, 2 | 1 << bit, 0));
            due("bit " + bit + ", no MEMBER", allowed ? UNKNOWN : OUTSIDE, x.weighs(bit == 0 ? 0 : 8, 1 << bit, 0));
        }
        for (int at : new int[] {-1, 23, LOW, HIGH}) {
            due("at " + at, OUTSIDE, x.weighs(1, 254, at));
            due("at " + at + ", not of the set", OUTSIDE, x.weighs(1, 4, at));
            due("at " + at + ", no MEMBER", OUTSIDE, x.weighs(8, 254, at));
        }
    }

    // ---- promises 13 to 15

    private static void loot() {
        sentence("Of the i-th LOOT, from 0 on: the MEMBER (what = 0), the EPOCH (1), the SHARE (2); NONE: there is none such "
                + "(i below 0, too). OUTSIDE.");
        Counted none = new Counted();
        Counted x = withLoot(24);
        for (int what = 0; what <= 2; what++) {
            due("nothing was dealt", NONE, none.loot(0, what));
            for (int i : new int[] {LOW, -1, 24, 25, HIGH}) {
                due("LOOT " + i, NONE, x.loot(i, what));
            }
        }
        for (int i = 0; i < 24; i++) {
            int m = 1 + i % 3;
            due("MEMBER of " + i, m, x.loot(i, 0));
            due("EPOCH of " + i, 0, x.loot(i, 1));
            due("SHARE of " + i, at(m, 6, 2), x.loot(i, 2));
        }
        for (int what : new int[] {LOW, -1, 3, HIGH}) {
            due("what = " + what, OUTSIDE, x.loot(0, what));
            due("what = " + what + ", and no such LOOT", OUTSIDE, x.loot(-1, what));
            due("what = " + what + ", and no LOOT", OUTSIDE, none.loot(0, what));
        }
        Counted y = withLoot(2);
        due("the last", 2, y.loot(1, 0));
        for (int i : new int[] {2, 3, 22, 23, 24}) {
            due("behind the last, LOOT " + i, NONE, y.loot(i, 0));
        }
    }

    private static void worlds() {
        sentence("How many POLYNOMIALS there are with as many VALUES as THE THRESHOLD of an EPOCH, the first of which is v, "
                + "that are at each MEMBER whose SHARE was stolen in that EPOCH what was stolen.");
        int[] values = {9, 1, 2, 3, 4};
        int[] powers = {1, 23, 529, 12167, 279841};
        for (int n = 1; n <= 5; n++) {
            Counted x = Counted.dealt(Arrays.copyOf(values, n));
            for (int stolen = 0; stolen <= 7; stolen++) {
                int any = stolen < n ? powers[n - 1 - stolen] : 0;
                due(stolen + " of " + n + ", the secret", Math.max(1, any), x.worlds(0, 9));
                due(stolen + " of " + n + ", the lowest", any, x.worlds(0, 0));
                due(stolen + " of " + n + ", the highest", any, x.worlds(0, 22));
                x.order("s" + (7 - stolen));
                x.order("s7");
            }
        }
        Counted other = Counted.dealt(9, 1, 2);
        other.order("s1");
        other.order("s2");
        other.order("f");
        other.order("s3");
        due("of EPOCH 0 alone", 1, other.worlds(0, 5));
        due("of EPOCH 1 alone", 23, other.worlds(1, 5));
        other.order("t5123");
        due("no LOOT of EPOCH 2", 279841, other.worlds(2, 5));
        due("the THRESHOLD that EPOCH 0 had", 1, other.worlds(0, 5));

        sentence("OUTSIDE: v, or there was no such EPOCH.");
        for (int v : new int[] {LOW, -1, 23, HIGH}) {
            due("v = " + v, OUTSIDE, other.worlds(0, v));
        }
        for (int e : new int[] {LOW, -1, 3, 199, 200, HIGH}) {
            due("EPOCH " + e, OUTSIDE, other.worlds(e, 0));
        }
        due("nothing was dealt", OUTSIDE, new Counted().worlds(0, 0));
        Counted back = Counted.dealt(9, 1);
        back.image(0);
        back.order("f");
        due("EPOCH 1", 23, back.worlds(1, 0));
        back.restore(0);
        due("no EPOCH 1 any more", OUTSIDE, back.worlds(1, 0));
        Counted last = Counted.dealt(9, 1);
        freshen(last, 199);
        due("EPOCH 199", 23, last.worlds(199, 0));
        due("EPOCH 200", OUTSIDE, last.worlds(200, 0));
    }

    private static void thief() {
        sentence("The first EPOCH in which SHARES of no fewer MEMBERS were stolen than its THRESHOLD (what = 0; NONE); what "
                + "they come to, WEIGHED at 0, the first so many (by MEMBERS) (1; NONE);");
        int[] values = {9, 1, 2, 3, 4};
        for (int n = 1; n <= 5; n++) {
            Counted x = Counted.dealt(Arrays.copyOf(values, n));
            for (int stolen = 0; stolen <= 7; stolen++) {
                due(stolen + " of " + n, stolen < n ? NONE : 0, x.thief(0));
                due(stolen + " of " + n + ", their secret", stolen < n ? NONE : 9, x.thief(1));
                due(stolen + " of " + n + ", of whatever EPOCHS", stolen < n ? NONE : 9, x.thief(2));
                x.order("s" + (7 - stolen));
                x.order("s7");
            }
        }
        Counted one = Counted.dealt(9);
        one.order("s4");
        due("one LOOT, of one", 0, one.thief(0));
        due("one LOOT, of one, its secret", 9, one.thief(1));
        Counted y = Counted.dealt(9, 1, 2);
        y.order("s1");
        y.order("s2");
        y.order("t2123");
        due("two are fewer than the three of EPOCH 0", NONE, y.thief(0));
        y.order("s3");
        due("one is fewer than the two of EPOCH 1", NONE, y.thief(0));
        y.order("s3");
        due("the same twice", NONE, y.thief(0));
        y.order("s1");
        due("the two of EPOCH 1", 1, y.thief(0));
        y.row(0, 0, 14);
        y.order("d1");
        y.order("s5");
        due("EPOCH 1 is the first", 1, y.thief(0));
        due("its secret", 9, y.thief(1));
        y.order("t55");
        due("its own THRESHOLD, not the one now", 1, y.thief(0));

        sentence("what the first LOOT of each MEMBER, by rising MEMBERS, as many as THE THRESHOLD now, come to, WEIGHED at "
                + "0, of whatever EPOCHS (2; NONE: there are fewer). OUTSIDE; STATE.");
        Counted z = Counted.dealt(5);
        z.order("s2");
        z.row(0, 0, 9);
        z.order("d1");
        z.order("s2");
        due("the first LOOT of 2", 5, z.thief(2));
        z.order("s1");
        due("1 is ahead of 2", 9, z.thief(2));
        z.order("t21");
        due("1 of EPOCH 1 and 2 of EPOCH 0", (2 * 9 + 22 * 5) % 23, z.thief(2));
        z.order("t312");
        due("two are fewer than three", NONE, z.thief(2));
        Counted rising = Counted.dealt(5);
        rising.order("s7");
        for (int secret : new int[] {9, 1, 13}) {
            rising.row(0, 0, secret);
            rising.order("d1");
            rising.order("s" + (secret == 9 ? 3 : secret == 1 ? 5 : 2));
        }
        due("2 is the first", 13, rising.thief(2));
        rising.order("d2");
        due("2 and 3 are the first two", (3 * 13 + 21 * 9) % 23, rising.thief(2));
        Counted none = new Counted();
        for (int what : new int[] {LOW, -1, 3, HIGH}) {
            due("thief(" + what + ")", OUTSIDE, z.thief(what));
            due("nothing was dealt, thief(" + what + ")", OUTSIDE, none.thief(what));
        }
        for (int what = 0; what <= 2; what++) {
            due("nothing was dealt, thief(" + what + ")", STATE, none.thief(what));
        }
    }

    // ---- promises 16 to 18

    private static void images() {
        sentence("All but THE TEXT and IMAGES is kept in an IMAGE (0, 1), in place of what was kept there: 1. OUTSIDE.");
        Counted x = new Counted();
        for (int k : new int[] {LOW, -1, 2, 31, 32, 33, HIGH}) {
            due("image(" + k + ")", OUTSIDE, x.image(k));
            due("restore(" + k + ")", OUTSIDE, x.restore(k));
        }
        due("no IMAGE", 0, x.count(7));
        due("image(1), nothing was dealt", 1, x.image(1));
        due("the second", 2, x.count(7));
        x.write("d3");
        due("image(0)", 1, x.image(0));
        due("both", 3, x.count(7));
        due("THE TEXT stays", 2, x.count(6));
        x.act();
        due("image(0) again", 1, x.image(0));
        due("both still", 3, x.count(7));
        x.order("d1");
        x.restore(0);
        due("in place of what was kept there", 3, x.count(0));
        x.restore(1);
        due("the other IMAGE is as it was", NONE, x.count(0));

        sentence("All but THE TEXT and IMAGES is as it was when it was kept; the IMAGE stays: 1. OUTSIDE; NO: nothing was "
                + "kept in it.");
        Counted y = new Counted();
        due("restore(0), nothing was kept", NO, y.restore(0));
        due("restore(1), nothing was kept", NO, y.restore(1));
        y.image(0);
        due("restore(1), in 0 alone", NO, y.restore(1));
        y.fill(0, 3, 8);
        y.order("d2");
        nameSome(y);
        y.order("s3");
        nameSome(y);
        y.image(1);
        y.write("o1234");
        due("back to a new object", 1, y.restore(0));
        due("THE TEXT stays", 5, y.count(6));
        due("nothing was dealt", NONE, y.count(1));
        due("no ORDER was done", 0, y.count(5));
        due("no LOOT", 0, y.count(4));
        names("nobody is named", y, 0, 0);
        due("STATE", STATE, y.act());
        due("the IMAGES stay", 3, y.count(7));
        for (int k = 0; k < 2; k++) {
            due("and forth", 1, y.restore(1));
            holds("as it was", y, 254, 3, 8);
            names("as it was", y, set(1), set(2));
            due("ORDERS as they were", 2, y.count(5));
            due("LOOT as it was", 1, y.count(4));
            due("the ROW of the DEALER", 8, y.row(0, 1, 5));
            due("a LIE", 1, y.bent(1, LIE, 0));
            due("who ANSWERS", 0, y.bent(2, ANSWERS, 1));
            due("a GRUDGE", 2, y.bent(3, GRUDGE, 0));
            without(y, 1, 2);
            y.order("f");
        }
        Counted back = new Counted();
        back.image(0);
        use(back);
        back.image(1);
        back.restore(0);
        useOtherwise(back);
        back.restore(1);
        back.write("o1");
        Counted never = new Counted();
        never.image(0);
        use(never);
        never.image(1);
        due("all as it was", 1, facts(back).equals(facts(never)) ? 1 : 0);
    }

    private static void count() {
        sentence("THE THRESHOLD (0; NONE: nothing was dealt), THE EPOCH (1; NONE), how many MEMBERS have a SHARE (2), the set "
                + "of these (3), how many LOOTS (4), how many ORDERS were done (5), signs of THE TEXT (6), which IMAGES are "
                + "kept, a set: bits 0, 1 (7);");
        Counted none = new Counted();
        int[] atFirst = {NONE, NONE, 0, 0, 0, 0, 0, 0, OUTSIDE, OUTSIDE, OUTSIDE};
        for (int what = 0; what < atFirst.length; what++) {
            due("nothing was dealt, count(" + what + ")", atFirst[what], none.count(what));
        }
        Counted x = withLoot(24);
        x.image(1);
        x.write("0123456789");
        int[] full = {2, 0, 6, 254 - 16, 24, 26, 10, 2, OUTSIDE, OUTSIDE, 2, OUTSIDE};
        for (int what = 0; what < full.length; what++) {
            due("count(" + what + ")", full[what], x.count(what));
        }

        sentence("THE THRESHOLD of EPOCH e (10 and e; OUTSIDE, if there was none such). OUTSIDE.");
        Counted y = Counted.dealt(1, 2, 3, 4, 5);
        y.order("t112345");
        y.order("d3");
        y.order("f");
        int[] thresholds = {5, 1, 3, 3};
        for (int e = 0; e < 4; e++) {
            due("of EPOCH " + e, thresholds[e], y.count(10 + e));
        }
        for (int what : new int[] {LOW, LOW + 9, LOW + 10, -1, 8, 9, 14, 209, 210, HIGH}) {
            due("count(" + what + ")", OUTSIDE, y.count(what));
        }
        Counted last = Counted.dealt(1, 2, 3);
        freshen(last, 199);
        due("of EPOCH 198", 3, last.count(208));
        due("of EPOCH 199", 3, last.count(209));
        due("of EPOCH 200", OUTSIDE, last.count(210));
    }
}
