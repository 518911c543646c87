/**
 * A FreshShares whose calls are counted: behind the 512th the document promises nothing, so that a test which asks
 * there would ask too much, and is stopped.
 */
final class Counted {
    static final int CALLS = 512;

    private final FreshShares shares = new FreshShares();
    private int calls = 0;

    private FreshShares used() {
        calls++;
        if (calls > CALLS) {
            throw new IllegalStateException("a test asks behind the 512th call");
        }
        return shares;
    }

    int calls() {
        return calls;
    }

    /** An object to which the POLYNOMIAL of these VALUES was dealt. */
    static Counted dealt(int... values) {
        Counted x = new Counted();
        x.fill(0, values);
        x.order("d" + values.length);
        return x;
    }

    /** Says a text in place of the one that stands there, and acts. */
    int order(String text) {
        write(text);
        return act();
    }

    void write(String text) {
        wipe();
        for (int i = 0; i < text.length(); i++) {
            say(text.charAt(i));
        }
    }

    void fill(int who, int... values) {
        for (int j = 0; j < values.length; j++) {
            row(who, j, values[j]);
        }
    }

    int row(int who, int j, int v) {
        return used().row(who, j, v);
    }

    int bent(int member, int what, int n) {
        return used().bent(member, what, n);
    }

    int member(int member, int what) {
        return used().member(member, what);
    }

    int say(int sign) {
        return used().say(sign);
    }

    int wipe() {
        return used().wipe();
    }

    int fault() {
        return used().fault();
    }

    int act() {
        return used().act();
    }

    int named(int what) {
        return used().named(what);
    }

    int fits(int v, int at) {
        return used().fits(v, at);
    }

    int seal(int j) {
        return used().seal(j);
    }

    int weighs(int member, int set, int at) {
        return used().weighs(member, set, at);
    }

    int loot(int i, int what) {
        return used().loot(i, what);
    }

    int worlds(int epoch, int v) {
        return used().worlds(epoch, v);
    }

    int thief(int what) {
        return used().thief(what);
    }

    int image(int k) {
        return used().image(k);
    }

    int restore(int k) {
        return used().restore(k);
    }

    int count(int what) {
        return used().count(what);
    }
}
