import java.util.ArrayList;
import java.util.Arrays;
import java.util.List;
import java.util.Random;

/** Long runs of calls with drawn arguments, answered by ProvinceCards and by a plain second writing of the document. */
public final class ReferenceTest {
    static final int BEYOND = -1000000001;
    static final int FULL = -1000000002;
    static final int KIND = -1000000003;
    static final int NONE = -1000000004;
    static final int STATE = -1000000005;
    static final int MISSING = -1000000006;
    static final int SIZE = -1000000007;
    static final int RUNS = 120;
    static final int CALLS = 511;
    static final String[] NAMES = {"mix", "province", "whose", "treasury", "now", "card", "envoy", "of", "turn", "as", "won",
        "send", "leads", "follows", "trick", "tricks", "months", "on", "then", "when", "all", "best", "mixed", "kind", "rest",
        "peace", "champion", "feed", "wipe", "spa", "sheet", "write", "copy", "lays", "book", "read", "image", "undo", "tear",
        "count", "status"};

    static int wrong = 0;

    public static void main(String[] args) {
        for (int run = 0; run < RUNS && wrong < 20; run++) {
            oneRun(run);
        }
        System.out.println(wrong == 0 ? "all answers are as due" : wrong + " answers are not as due");
        if (wrong != 0) {
            System.exit(1);
        }
    }

    static void oneRun(int run) {
        Random random = new Random(run);
        ProvinceCards x = new ProvinceCards();
        Reference y = new Reference();
        List<int[]> planned = new ArrayList<>();
        // Every third run starts late, so that the edge at MONTH 9999 is met.
        int early = run % 3 == 0 ? 164 + random.nextInt(3) : 0;
        for (int i = 0; i < early; i++) {
            planned.add(new int[] {16, 60, 0, 0, 0, 0});
        }
        for (int i = 0; i < CALLS && wrong < 20; i++) {
            if (planned.isEmpty() && random.nextInt(25) == 0) {
                planText(random, planned);
            }
            int[] c = planned.isEmpty() ? drawn(random) : planned.remove(0);
            long v = c[0] == 31 ? number(random) : 0;
            long got = call(x, c, v);
            long due = y.call(c, v);
            if (got != due) {
                wrong++;
                System.out.println("run " + run + ", call " + i + ": " + NAMES[c[0]] + Arrays.toString(c) + " " + v
                    + " answered " + got + ", due is " + due);
            }
        }
    }

    static void planText(Random random, List<int[]> planned) {
        String text = text(random);
        planned.add(new int[] {28, 0, 0, 0, 0, 0});
        for (int i = 0; i < text.length(); i += 4) {
            int n = Math.min(4, text.length() - i);
            int bytes = random.nextInt();
            for (int k = 0; k < n; k++) {
                bytes = bytes << 8 | text.charAt(i + k);
            }
            planned.add(new int[] {27, bytes, n, 0, 0, 0});
        }
        planned.add(new int[] {29, 0, 0, 0, 0, 0});
    }

    static String text(Random random) {
        String[] kinds = {"envoy", "miser", "scholar", "bribed", "fox", "marshal"};
        StringBuilder text = new StringBuilder();
        int items = 1 + random.nextInt(5);
        for (int i = 0; i < items; i++) {
            text.append(i == 0 ? "" : gap(random) + ";").append(gap(random));
            switch (random.nextInt(4)) {
                case 0:
                    text.append(kinds[random.nextInt(6)]);
                    break;
                case 1:
                    text.append(kinds[random.nextInt(6)]).append(" for").append(gap(random)).append(random.nextInt(2));
                    break;
                case 2:
                    text.append("mix").append(gap(random)).append(2 * random.nextInt(16) + 1);
                    break;
                default:
                    text.append("province").append(gap(random)).append(random.nextInt(8)).append(' ')
                        .append(random.nextBoolean() ? "free" : "" + random.nextInt(2));
                    break;
            }
        }
        if (random.nextInt(2) == 0) {
            String[] bad = {"x", "9", ";", " ", "for", "free", "mix", "00", "#", "A", "\u00e9", "province 8", "1000", "fox"};
            int at = random.nextInt(text.length() + 1);
            text.insert(at, bad[random.nextInt(bad.length)]);
        }
        if (random.nextInt(8) == 0) {
            text.setLength(random.nextInt(text.length()));
        }
        return text.substring(0, Math.min(120, text.length()));
    }

    static String gap(Random random) {
        return "   ".substring(random.nextInt(4));
    }

    static long number(Random random) {
        switch (random.nextInt(3)) {
            case 0:
                return random.nextInt(5) - 2;
            case 1:
                return random.nextInt(600) - 300;
            default:
                return random.nextLong();
        }
    }

    /** An argument that is mostly within 0 to most, now and then at or past an edge. */
    static int arg(Random random, int most) {
        switch (random.nextInt(40)) {
            case 0:
                return -1;
            case 1:
                return most + 1;
            case 2:
                return random.nextInt();
            case 3:
                return most;
            case 4:
                return random.nextBoolean() ? Integer.MIN_VALUE : Integer.MAX_VALUE;
            default:
                return random.nextInt(most + 1);
        }
    }

    static int[] drawn(Random random) {
        int[][] limits = {{31}, {7, 1}, {7}, {1, 99999}, {7}, {7, 9999}, {5}, {7, 2}, {7, 5}, {7, 5}, {7, 9999}, {1, 7}, {7, 1},
            {7, 1, 31}, {3, 3}, {}, {60}, {7, 100}, {1, 100, 1}, {7, 1}, {1}, {1, 40}, {1, 40}, {7, 40}, {1, 30}, {40}, {100},
            {0, 4}, {}, {}, {3, 0, 40}, {3, 39}, {3, 39, 3, 39, 39}, {3}, {3, 1}, {3, 1, 7}, {}, {}, {}, {3}, {6}};
        int which = random.nextInt(limits.length);
        int[] limit = limits[which];
        int[] c = {which, 0, 0, 0, 0, 0};
        for (int i = 0; i < limit.length; i++) {
            c[i + 1] = arg(random, limit[i]);
        }
        int[] bits = {0, 8, 16, 64, 8, 16, 64, 32};
        if (which == 0) {
            c[1] |= random.nextInt(8) == 0 ? 0 : 1;
        } else if (which == 10 && random.nextBoolean() || which == 3 && random.nextBoolean()) {
            c[2] = (which == 10 ? 9999 : 99999) - random.nextInt(30);
        } else if (which == 16) {
            c[1] = random.nextBoolean() ? c[1] : 1 + random.nextInt(3);
        } else if ((which == 1 || which == 19) && random.nextInt(3) == 0) {
            c[2] = -1;
        } else if (which == 30) {
            c[2] = bits[random.nextInt(8)];
            c[3] = random.nextBoolean() ? c[3] : 1 + random.nextInt(4);
        } else if (which == 32) {
            c[2] = random.nextBoolean() ? c[2] : random.nextInt(4);
            c[4] = random.nextBoolean() ? c[4] : random.nextInt(4);
            c[5] = random.nextInt(4) == 0 ? c[5] : random.nextInt(5);
            c[3] = random.nextInt(3) == 0 ? c[1] : c[3];
        }
        return c;
    }

    static long call(ProvinceCards x, int[] c, long v) {
        int a = c[1];
        int b = c[2];
        switch (NAMES[c[0]]) {
            case "mix": return x.mix(a);
            case "province": return x.province(a, b);
            case "whose": return x.whose(a);
            case "treasury": return x.treasury(a, b);
            case "now": return x.now(a);
            case "card": return x.card(a, b);
            case "envoy": return x.envoy(a);
            case "of": return x.of(a, b);
            case "turn": return x.turn(a, b);
            case "as": return x.as(a, b);
            case "won": return x.won(a, b);
            case "send": return x.send(a, b);
            case "leads": return x.leads(a, b);
            case "follows": return x.follows(a, b, c[3]);
            case "trick": return x.trick(a, b);
            case "tricks": return x.tricks();
            case "months": return x.months(a);
            case "on": return x.on(a, b);
            case "then": return x.then(a, b, c[3]);
            case "when": return x.when(a, b);
            case "all": return x.all(a);
            case "best": return x.best(a, b);
            case "mixed": return x.mixed(a, b);
            case "kind": return x.kind(a, b);
            case "rest": return x.rest(a, b);
            case "peace": return x.peace(a);
            case "champion": return x.champion(a);
            case "feed": return x.feed(a, b);
            case "wipe": return x.wipe();
            case "spa": return x.spa();
            case "sheet": return x.sheet(a, b, c[3]);
            case "write": return x.write(a, b, v);
            case "copy": return x.copy(a, b, c[3], c[4], c[5]);
            case "lays": return x.lays(a);
            case "book": return x.book(a, b);
            case "read": return x.read(a, b, c[3]);
            case "image": return x.image();
            case "undo": return x.undo();
            case "tear": return x.tear();
            case "count": return x.count(a);
            default: return x.status(a);
        }
    }

    static class Finding extends Exception {
        private static final long serialVersionUID = 1L;
        final int code;

        Finding(int code) {
            this.code = code;
        }
    }

    static class Fault extends Exception {
        private static final long serialVersionUID = 1L;
        final int place;

        Fault(int place) {
            this.place = place;
        }
    }

    static int suit(int card) {
        return card / 8;
    }

    static int rank(int card) {
        return card % 8;
    }

    static boolean beats(int card, int led, int trump) {
        return suit(card) == suit(led) && rank(card) > rank(led) || suit(card) == trump && suit(led) != trump;
    }

    static int byRank(List<Integer> cards, boolean highest) {
        int pick = -1;
        for (int card : cards) {
            int more = pick < 0 ? 1 : highest ? rank(card) - rank(pick) : rank(pick) - rank(card);
            if (more > 0 || more == 0 && card < pick) {
                pick = card;
            }
        }
        return pick;
    }

    static List<Integer> beaters(List<Integer> cards, int led, int trump, boolean wanted) {
        List<Integer> some = new ArrayList<>();
        for (int card : cards) {
            if (beats(card, led, trump) == wanted) {
                some.add(card);
            }
        }
        return some;
    }

    static List<Integer> ofSuit(List<Integer> cards, int suit) {
        List<Integer> some = new ArrayList<>();
        for (int card : cards) {
            if (suit(card) == suit) {
                some.add(card);
            }
        }
        return some;
    }

    static class Envoy {
        int lead(List<Integer> hand, int trump) {
            return byRank(hand, true);
        }

        int follow(List<Integer> may, int led, int trump) {
            List<Integer> better = beaters(may, led, trump, true);
            return byRank(better.isEmpty() ? may : better, false);
        }
    }

    static class Miser extends Envoy {
        @Override
        int lead(List<Integer> hand, int trump) {
            return byRank(hand, false);
        }

        @Override
        int follow(List<Integer> may, int led, int trump) {
            return byRank(may, false);
        }
    }

    static class Scholar extends Envoy {
        @Override
        int lead(List<Integer> hand, int trump) {
            List<Integer> trumps = ofSuit(hand, trump);
            return byRank(trumps.isEmpty() ? hand : trumps, true);
        }
    }

    static class Bribed extends Envoy {
        @Override
        int lead(List<Integer> hand, int trump) {
            return byRank(hand, false);
        }

        @Override
        int follow(List<Integer> may, int led, int trump) {
            List<Integer> worse = beaters(may, led, trump, false);
            return worse.isEmpty() ? byRank(may, false) : byRank(worse, true);
        }
    }

    static class Fox extends Miser {
        @Override
        int lead(List<Integer> hand, int trump) {
            return hand.size() <= 2 ? new Envoy().lead(hand, trump) : super.lead(hand, trump);
        }

        @Override
        int follow(List<Integer> may, int led, int trump) {
            return suit(led) == trump ? new Envoy().follow(may, led, trump) : super.follow(may, led, trump);
        }
    }

    static class Marshal extends Scholar {
        @Override
        int follow(List<Integer> may, int led, int trump) {
            List<Integer> better = beaters(may, led, trump, true);
            return better.isEmpty() ? byRank(may, false) : byRank(better, true);
        }
    }

    static final Envoy[] WAYS = {new Envoy(), new Miser(), new Scholar(), new Bribed(), new Fox(), new Marshal()};
    static final Class<?>[] CLASSES = {Envoy.class, Miser.class, Scholar.class, Bribed.class, Fox.class, Marshal.class};

    /** One state of the world; months make another one, so nothing needs to be taken back. */
    static class World {
        int month = 0;
        int mix = 5;
        int[] owner = {-1, -1, -1, -1, -1, -1, -1, -1};
        int[] purse = {50, 50};
        int[] sent = {-1, -1};
        List<int[]> envoys = new ArrayList<>();

        World twin() {
            World w = new World();
            w.month = month;
            w.mix = mix;
            w.owner = owner.clone();
            w.purse = purse.clone();
            w.sent = sent.clone();
            for (int[] e : envoys) {
                w.envoys.add(e.clone());
            }
            return w;
        }

        int dealt(int place, int m) {
            return (mix * place + m) % 32;
        }

        List<Integer> hand(int state) {
            List<Integer> hand = new ArrayList<>();
            for (int i = 0; i < 4; i++) {
                hand.add(dealt(state * 4 + i, month));
            }
            return hand;
        }

        int lead(int kind, List<Integer> hand) {
            return WAYS[kind].lead(hand, month % 4);
        }

        int follow(int kind, List<Integer> hand, int led) {
            List<Integer> may = ofSuit(hand, suit(led));
            if (may.isEmpty() || WAYS[kind] instanceof Scholar && month % 3 == 0) {
                may = hand;
            }
            return WAYS[kind].follow(may, led, month % 4);
        }

        /** Rows of a trick: the card of state 0, that of state 1, who leads, who wins. */
        int[][] tricks() {
            List<List<Integer>> hands = List.of(hand(0), hand(1));
            int[][] rows = new int[4][4];
            int leader = month % 2;
            for (int[] row : rows) {
                int other = 1 - leader;
                int led = lead(envoys.get(sent[leader])[0], hands.get(leader));
                int answer = follow(envoys.get(sent[other])[0], hands.get(other), led);
                hands.get(leader).remove((Integer) led);
                hands.get(other).remove((Integer) answer);
                row[leader] = led;
                row[other] = answer;
                row[2] = leader;
                row[3] = beats(answer, led, month % 4) ? other : leader;
                leader = row[3];
            }
            return rows;
        }

        int tricksOf(int state) {
            int n = 0;
            for (int[] row : tricks()) {
                n += row[3] == state ? 1 : 0;
            }
            return n;
        }

        void month() {
            int whose = -1;
            if (sent[0] >= 0 && sent[1] >= 0) {
                for (int state = 0; state < 2; state++) {
                    if (tricksOf(state) >= 3) {
                        whose = state;
                        int[] e = envoys.get(sent[state]);
                        e[1] = Math.min(9999, e[1] + 1);
                    }
                }
            } else if (sent[0] >= 0) {
                whose = 0;
            } else if (sent[1] >= 0) {
                whose = 1;
            }
            owner[month % 8] = whose;
            for (int p = 0; p < 8; p++) {
                if (owner[p] >= 0) {
                    purse[owner[p]] = Math.min(99999, purse[owner[p]] + 1);
                }
            }
            month++;
        }

        World months(int n) {
            for (int i = 0; i < n; i++) {
                month();
            }
            return this;
        }

        World on(int n) {
            return twin().months(n);
        }

        int has(int state) {
            int n = 0;
            for (int o : owner) {
                n += o == state ? 1 : 0;
            }
            return n;
        }

        int set(int state) {
            int set = 0;
            for (int p = 7; p >= 0; p--) {
                set = 2 * set + (owner[p] == state ? 1 : 0);
            }
            return set;
        }
    }

    static class Reference {
        World w = new World();
        World image = null;
        String tape = "";
        int[] bits = {0, 0, 0, 0};
        List<List<Long>> sheets = new ArrayList<>();
        int[] findings = new int[7];

        Reference() {
            for (int i = 0; i < 4; i++) {
                sheets.add(new ArrayList<>());
            }
        }

        long call(int[] c, long v) {
            try {
                return answer(NAMES[c[0]], c[1], c[2], c, v);
            } catch (Finding f) {
                findings[BEYOND - f.code]++;
                return f.code;
            }
        }

        static void need(boolean fine, int code) throws Finding {
            if (!fine) {
                throw new Finding(code);
            }
        }

        static void range(int v, int least, int most) throws Finding {
            need(v >= least && v <= most, BEYOND);
        }

        int[] one(int envoy) throws Finding {
            range(envoy, 0, w.envoys.size() - 1);
            return w.envoys.get(envoy);
        }

        List<Long> there(int s) throws Finding {
            range(s, 0, 3);
            need(bits[s] != 0, MISSING);
            return sheets.get(s);
        }

        void sentBoth() throws Finding {
            need(w.sent[0] >= 0 && w.sent[1] >= 0, STATE);
        }

        long answer(String name, int a, int b, int[] c, long v) throws Finding {
            long was;
            switch (name) {
                case "mix":
                    need(a >= 1 && a <= 31 && (a & 1) == 1, BEYOND);
                    was = w.mix;
                    w.mix = a;
                    return was;
                case "province":
                    range(a, 0, 7);
                    range(b, -1, 1);
                    was = w.owner[a];
                    w.owner[a] = b;
                    return was;
                case "whose":
                    range(a, 0, 7);
                    return w.owner[a];
                case "treasury":
                    range(a, 0, 1);
                    range(b, 0, 99999);
                    was = w.purse[a];
                    w.purse[a] = b;
                    return was;
                case "now":
                    range(a, 0, 7);
                    return new int[] {w.month, w.mix, w.month % 4, w.month % 8, w.sent[0], w.sent[1], w.purse[0], w.purse[1]}[a];
                case "card":
                    range(a, 0, 7);
                    range(b, 0, 9999);
                    return w.dealt(a, b);
                case "envoy":
                    range(a, 0, 5);
                    need(w.envoys.size() < 8, FULL);
                    w.envoys.add(new int[] {a, 0});
                    return w.envoys.size() - 1;
                case "of":
                    one(a);
                    range(b, 0, 2);
                    return b < 2 ? one(a)[b] : (w.sent[0] == a ? 1 : 0) | (w.sent[1] == a ? 2 : 0);
                case "turn":
                    one(a);
                    range(b, 0, 5);
                    was = one(a)[0];
                    one(a)[0] = b;
                    return was;
                case "as":
                    one(a);
                    range(b, 0, 5);
                    need(CLASSES[b].isInstance(WAYS[one(a)[0]]), KIND);
                    return one(a)[1];
                case "won":
                    one(a);
                    range(b, 0, 9999);
                    was = one(a)[1];
                    one(a)[1] = b;
                    return was;
                case "send":
                    range(a, 0, 1);
                    range(b, -1, w.envoys.size() - 1);
                    was = w.sent[a];
                    w.sent[a] = b;
                    return was;
                case "leads":
                    one(a);
                    range(b, 0, 1);
                    return w.lead(one(a)[0], w.hand(b));
                case "follows":
                    one(a);
                    range(b, 0, 1);
                    range(c[3], 0, 31);
                    return w.follow(one(a)[0], w.hand(b), c[3]);
                default:
                    return later(name, a, b, c, v);
            }
        }

        long later(String name, int a, int b, int[] c, long v) throws Finding {
            long was;
            switch (name) {
                case "trick":
                    range(a, 0, 3);
                    range(b, 0, 3);
                    sentBoth();
                    return w.tricks()[a][b];
                case "tricks":
                    sentBoth();
                    return w.tricksOf(0);
                case "months":
                    range(a, 1, 60);
                    need(w.month + a <= 9999, STATE);
                    return w.months(a).has(-1);
                case "on":
                    range(a, 0, 7);
                    range(b, 0, 100);
                    return w.on(b).owner[a];
                case "then":
                    range(a, 0, 1);
                    range(b, 0, 100);
                    range(c[3], 0, 1);
                    return c[3] == 0 ? w.on(b).set(a) : w.on(b).purse[a];
                case "when":
                    range(a, 0, 7);
                    range(b, -1, 1);
                    for (int n = 0; n <= 100; n++) {
                        if (w.on(n).owner[a] == b) {
                            return n;
                        }
                    }
                    throw new Finding(NONE);
                case "all":
                    range(a, 0, 1);
                    for (int n = 0; n <= 100; n++) {
                        if (w.on(n).set(a) == 255) {
                            return n;
                        }
                    }
                    throw new Finding(NONE);
                case "best":
                case "mixed":
                case "kind":
                case "rest":
                case "peace":
                case "champion":
                    return foremost(name, a, b);
                case "feed":
                    range(b, 1, 4);
                    need(tape.length() + b <= 120, FULL);
                    String all = "" + (char) (a >>> 24) + (char) (a >>> 16 & 255) + (char) (a >>> 8 & 255) + (char) (a & 255);
                    tape += all.substring(4 - b);
                    return tape.length();
                case "wipe":
                    was = tape.length();
                    tape = "";
                    return was;
                case "spa":
                    return spa();
                case "image":
                    image = w.twin();
                    return 1;
                case "undo":
                    need(image != null, NONE);
                    w = image.twin();
                    return w.envoys.size();
                case "tear":
                    was = image == null ? 0 : 1;
                    image = null;
                    return was;
                case "count":
                    range(a, 0, 3);
                    int together = 0;
                    for (int[] e : w.envoys) {
                        together += e[1];
                    }
                    return new int[] {w.envoys.size(), tape.length(), w.has(-1), together}[a];
                case "status":
                    range(a, -1, 6);
                    return a >= 0 ? findings[a] : Arrays.stream(findings).sum();
                default:
                    return sheets(name, a, b, c, v);
            }
        }

        long foremost(String name, int a, int b) throws Finding {
            if (name.equals("kind")) {
                one(a);
            } else if (!name.equals("peace") && !name.equals("champion")) {
                range(a, 0, 1);
            }
            int n = name.equals("peace") || name.equals("champion") ? a : b;
            range(n, name.equals("champion") ? 0 : 1, name.equals("champion") ? 100 : name.equals("rest") ? 30 : 40);
            if (name.equals("best") || name.equals("champion")) {
                need(!w.envoys.isEmpty(), NONE);
            }
            int pick = -1;
            int most = -1;
            for (int i = 0; i <= 31; i++) {
                int score = score(name, a, n, i);
                if (score > most) {
                    most = score;
                    pick = i;
                }
            }
            return pick;
        }

        /** How good the i-th choice is; -1 if there is none such. */
        int score(String name, int a, int n, int i) {
            World t = w.twin();
            switch (name) {
                case "best":
                    t.sent[a] = i;
                    return i < w.envoys.size() ? t.months(n).has(a) : -1;
                case "mixed":
                case "peace":
                    t.mix = i;
                    return i % 2 == 1 ? t.months(n).has(name.equals("peace") ? -1 : a) : -1;
                case "kind":
                    t.envoys.get(a)[0] = Math.min(i, 5);
                    return i < 6 ? t.months(n).envoys.get(a)[1] : -1;
                case "rest":
                    t.sent = new int[] {-1, -1};
                    t.months(i);
                    t.sent = w.sent.clone();
                    return i <= 30 ? t.months(n).has(a) : -1;
                default:
                    return i < w.envoys.size() ? t.months(n).envoys.get(i)[1] : -1;
            }
        }

        long sheets(String name, int a, int b, int[] c, long v) throws Finding {
            switch (name) {
                case "sheet":
                    range(a, 0, 3);
                    need(b == 0 || b == 8 || b == 16 || b == 64, BEYOND);
                    need(c[3] >= 0, SIZE);
                    need(c[3] <= 40, BEYOND);
                    bits[a] = b;
                    sheets.get(a).clear();
                    for (int i = 0; b != 0 && i < c[3]; i++) {
                        sheets.get(a).add(0L);
                    }
                    return sheets.get(a).size();
                case "write":
                    there(a);
                    range(b, 0, there(a).size() - 1);
                    return there(a).set(b, cut(v, bits[a]));
                case "copy":
                    int t = c[3];
                    range(a, 0, 3);
                    range(t, 0, 3);
                    there(a);
                    there(t);
                    need(bits[a] == bits[t], KIND);
                    need(b >= 0 && c[4] >= 0 && c[5] >= 0, BEYOND);
                    need((long) b + c[5] <= there(a).size() && (long) c[4] + c[5] <= there(t).size(), BEYOND);
                    List<Long> some = new ArrayList<>(there(a).subList(b, b + c[5]));
                    for (int i = 0; i < c[5]; i++) {
                        there(t).set(c[4] + i, some.get(i));
                    }
                    return c[5];
                case "lays":
                    int came = 0;
                    for (int i = 0; i < Math.min(8, there(a).size()); i++) {
                        long x = there(a).get(i);
                        if (x == -1 || x == 0 || x == 1) {
                            w.owner[i] = (int) x;
                            came++;
                        }
                    }
                    return came;
                case "book":
                    there(a);
                    range(b, 0, 1);
                    for (int i = 0; i < there(a).size(); i++) {
                        there(a).set(i, cut(w.on(i).set(b), bits[a]));
                    }
                    return there(a).size();
                default:
                    return reader(a, b, c[3]);
            }
        }

        long reader(int s, int state, int envoy) throws Finding {
            there(s);
            range(state, 0, 1);
            one(envoy);
            int pairs = 0;
            for (int i = 0; i < 96; i++) {
                World t = w.twin();
                t.envoys.get(envoy)[0] = i / 16;
                t.mix = i % 16 * 2 + 1;
                boolean same = true;
                for (long told : there(s)) {
                    same &= told == t.set(state);
                    t.month();
                }
                pairs += same ? 1 : 0;
            }
            return pairs;
        }

        static long cut(long v, int bits) {
            return v << (64 - bits) >> (64 - bits);
        }

        long spa() {
            World t = w.twin();
            try {
                int items = new Text(tape, t).items();
                w = t;
                return items;
            } catch (Fault f) {
                return -1 - f.place;
            } finally {
                tape = "";
            }
        }
    }

    /** Reads a text by places of tokens. */
    static class Text {
        final List<String> tokens = new ArrayList<>();
        final List<Integer> places = new ArrayList<>();
        final World w;
        int at = 0;

        Text(String tape, World w) {
            this.w = w;
            java.util.regex.Matcher m = java.util.regex.Pattern.compile("[a-z]+|[0-9]+|[^ ]").matcher(tape);
            while (m.find()) {
                tokens.add(m.group());
                places.add(m.start());
            }
            tokens.add("");
            places.add(tape.length());
        }

        boolean is(String token) {
            return tokens.get(at).equals(token);
        }

        void fault() throws Fault {
            throw new Fault(places.get(at));
        }

        int number(int most) throws Fault {
            String t = tokens.get(at);
            if (!t.matches("0*[0-9]{1,3}") || Integer.parseInt(t.replaceFirst("^0+(?=.)", "")) > most) {
                fault();
            }
            at++;
            return Integer.parseInt(t.replaceFirst("^0+(?=.)", ""));
        }

        int items() throws Fault {
            int n = 0;
            do {
                at += n > 0 ? 1 : 0;
                item();
                n++;
            } while (is(";"));
            if (!is("")) {
                fault();
            }
            return n;
        }

        void item() throws Fault {
            int kind = List.of("envoy", "miser", "scholar", "bribed", "fox", "marshal").indexOf(tokens.get(at));
            if (kind >= 0 && w.envoys.size() < 8) {
                at++;
                w.envoys.add(new int[] {kind, 0});
                if (is("for")) {
                    at++;
                    w.sent[number(1)] = w.envoys.size() - 1;
                }
            } else if (is("mix")) {
                at++;
                int v = number(31);
                if (v % 2 == 0) {
                    at--;
                    fault();
                }
                w.mix = v;
            } else if (is("province")) {
                at++;
                int p = number(7);
                if (is("free")) {
                    at++;
                    w.owner[p] = -1;
                } else {
                    w.owner[p] = number(1);
                }
            } else {
                fault();
            }
        }
    }
}
