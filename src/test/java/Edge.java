import java.util.ArrayList;
import java.util.List;
import java.util.function.Supplier;

/** What the tests of the document's edges share: sentences, answers that are due, refused calls, and tables to ask. */
final class Edge {
    static final int BEYOND = -1000000001;
    static final int FULL = -1000000002;
    static final int KIND = -1000000003;
    static final int NONE = -1000000004;
    static final int STATE = -1000000005;
    static final int MISSING = -1000000006;
    static final int SIZE = -1000000007;
    static final int LEAST = Integer.MIN_VALUE;
    static final int MOST = Integer.MAX_VALUE;
    /** Of this number a sheet of 8 bits keeps 1, one of 16 bits 4097, one of 64 bits all. */
    private static final long TELLS_BITS = (1L << 40) + 4097;

    private static String words = "";
    private static int sentences = 0;
    private static int broken = 0;
    private static int wrong = 0;

    /** A call on an object that the test has made. */
    interface Act {
        long on(ProvinceCards x);
    }

    private Edge() {
    }

    /** One sentence of the document, by where it stands and its words, and the test of its own that it has. */
    static void sentence(String where, Runnable test) {
        words = where;
        sentences++;
        int before = wrong;
        try {
            test.run();
        } catch (RuntimeException thrown) {
            wrong++;
            System.out.println(words + ": threw " + thrown);
        }
        broken += wrong > before ? 1 : 0;
    }

    static void end() {
        System.out.println(wrong == 0 ? "all " + sentences + " sentences hold" : broken + " sentences of " + sentences + " don't hold");
        if (wrong != 0) {
            System.exit(1);
        }
    }

    static void due(String call, long got, long want) {
        if (got != want) {
            wrong++;
            System.out.println(words + ": " + call + " answered " + got + ", due is " + want);
        }
    }

    /** A call that is refused: it answers the finding, which is counted once, and leaves all else as it was. */
    static void refused(Supplier<ProvinceCards> maker, String call, int finding, Act act) {
        ProvinceCards x = maker.get();
        long[] before = statuses(x);
        due(call, act.on(x), finding);
        long[] after = statuses(x);
        for (int i = 0; i < 8; i++) {
            long more = i == 0 || i - 1 == BEYOND - finding ? 1 : 0;
            due("status(" + (i - 1) + ") behind " + call, after[i], before[i] + more);
        }
        leavesAll(maker, call, x);
    }

    /** A call that only asks: nothing is another one behind it. */
    static void asks(Supplier<ProvinceCards> maker, String call, Act act) {
        ProvinceCards x = maker.get();
        act.on(x);
        leavesAll(maker, call, x);
    }

    private static void leavesAll(Supplier<ProvinceCards> maker, String call, ProvinceCards x) {
        List<Long> due = picture(maker.get());
        List<Long> got = picture(x);
        if (!got.equals(due)) {
            wrong++;
            System.out.println(words + ": " + call + " left " + got + ", due is " + due);
        }
    }

    private static long[] statuses(ProvinceCards x) {
        long[] all = new long[8];
        for (int i = 0; i < 8; i++) {
            all[i] = x.status(i - 1);
        }
        return all;
    }

    /** All that can be asked of an object; it is used up by that, as sheets, the tape and the image show only in use. */
    private static List<Long> picture(ProvinceCards x) {
        List<Long> all = new ArrayList<>();
        addTable(x, all);
        for (int s = 0; s < 4; s++) {
            addSheet(x, s, all);
        }
        all.add((long) x.spa());
        addTable(x, all);
        all.add((long) x.undo());
        addTable(x, all);
        all.add((long) x.tear());
        return all;
    }

    private static void addTable(ProvinceCards x, List<Long> all) {
        for (int i = 0; i < 8; i++) {
            all.add((long) x.now(i));
            all.add((long) x.whose(i));
        }
        for (int what = 0; what < 4; what++) {
            all.add((long) x.count(what));
        }
        for (int envoy = 0; envoy < x.count(0); envoy++) {
            for (int what = 0; what < 3; what++) {
                all.add((long) x.of(envoy, what));
            }
        }
    }

    private static void addSheet(ProvinceCards x, int s, List<Long> all) {
        for (int i = 0; i <= 40; i++) {
            long was = x.write(s, i, TELLS_BITS);
            all.add(was);
            if (was == BEYOND || was == MISSING) {
                return;
            }
            all.add(x.write(s, i, 0));
        }
    }

    static ProvinceCards fresh() {
        return new ProvinceCards();
    }

    /** One of each kind, numbered as the kinds are. */
    static ProvinceCards six() {
        ProvinceCards x = new ProvinceCards();
        for (int kind = 0; kind < 6; kind++) {
            x.envoy(kind);
        }
        return x;
    }

    static ProvinceCards sent(int kind0, int kind1) {
        ProvinceCards x = six();
        x.send(0, kind0);
        x.send(1, kind1);
        return x;
    }

    /** Eight envoys, as many as there may be. */
    static ProvinceCards eight() {
        ProvinceCards x = six();
        x.envoy(0);
        x.envoy(5);
        return x;
    }

    /** Something of everything: envoys, provinces, purses, sheets of each kind, a text on the tape, an image of another time. */
    static ProvinceCards rich() {
        ProvinceCards x = sent(2, 4);
        x.mix(11);
        x.months(13);
        x.province(1, 0);
        x.province(6, -1);
        x.treasury(0, 777);
        x.sheet(0, 8, 3);
        x.sheet(1, 16, 2);
        x.sheet(2, 64, 4);
        for (int i = 0; i < 3; i++) {
            x.write(0, i, i - 1);
            x.write(1, i, 300 + i);
            x.write(2, i, 5000000000L + i);
        }
        x.image();
        x.mix(7);
        x.turn(0, 3);
        x.won(1, 40);
        feedText(x, "fox for 1");
        return x;
    }

    static ProvinceCards pass(ProvinceCards x, int n) {
        for (int left = n; left > 0; left -= 60) {
            x.months(Math.min(60, left));
        }
        return x;
    }

    /** Envoys of two kinds, sent, when so many months have gone with nobody sent. */
    static ProvinceCards sentAt(int kind0, int kind1, int month) {
        ProvinceCards x = pass(six(), month);
        x.send(0, kind0);
        x.send(1, kind1);
        return x;
    }

    static void feedText(ProvinceCards x, String text) {
        for (int i = 0; i < text.length(); i++) {
            x.feed(text.charAt(i), 1);
        }
    }

    static int spaOf(ProvinceCards x, String text) {
        feedText(x, text);
        return x.spa();
    }

    static int owned(ProvinceCards x, int state) {
        int n = 0;
        for (int p = 0; p < 8; p++) {
            n += x.whose(p) == state ? 1 : 0;
        }
        return n;
    }

    static void provincesAll(ProvinceCards x, int state) {
        for (int p = 0; p < 8; p++) {
            x.province(p, state);
        }
    }

    static void numbersAre(ProvinceCards x, int s, long... due) {
        for (int i = 0; i < due.length; i++) {
            due("number " + i + " of sheet " + s, x.write(s, i, 0), due[i]);
            x.write(s, i, due[i]);
        }
    }
}
