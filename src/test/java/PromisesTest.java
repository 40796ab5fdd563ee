/** Each promise of the document by itself: ordinary inputs, the edges that it names, and wrong inputs. */
public final class PromisesTest {
    private static final int BEYOND = -1000000001;
    private static final int FULL = -1000000002;
    private static final int KIND = -1000000003;
    private static final int NONE = -1000000004;
    private static final int STATE = -1000000005;
    private static final int MISSING = -1000000006;
    private static final int SIZE = -1000000007;
    private static final int LEAST = Integer.MIN_VALUE;
    private static final int MOST = Integer.MAX_VALUE;
    private static int wrong = 0;
    private static int promise = 0;

    public static void main(String[] args) {
        newObject();
        mix();
        provinceAndWhose();
        treasury();
        now();
        card();
        envoy();
        of();
        turn();
        as();
        won();
        send();
        leads();
        follows();
        followsOthers();
        trick();
        tricks();
        months();
        lastMonth();
        on();
        then();
        when();
        all();
        best();
        mixed();
        kind();
        rest();
        peace();
        champion();
        feedAndWipe();
        spa();
        spaFaults();
        spaNinth();
        sheet();
        write();
        copy();
        lays();
        book();
        read();
        image();
        undoAndTear();
        count();
        status();
        System.out.println(wrong == 0 ? "all answers are as due" : wrong + " answers are not as due");
        if (wrong != 0) {
            System.exit(1);
        }
    }

    private static void due(String call, long got, long want) {
        if (got != want) {
            wrong++;
            System.out.println("promise " + promise + ": " + call + " answered " + got + ", due is " + want);
        }
    }

    /** One of each kind, numbered as the kinds are. */
    private static ProvinceCards six() {
        ProvinceCards x = new ProvinceCards();
        for (int kind = 0; kind < 6; kind++) {
            due("envoy", x.envoy(kind), kind);
        }
        return x;
    }

    private static ProvinceCards sent(int kind0, int kind1) {
        ProvinceCards x = six();
        x.send(0, kind0);
        x.send(1, kind1);
        return x;
    }

    private static ProvinceCards pass(ProvinceCards x, int n) {
        for (int left = n; left > 0; left -= 60) {
            x.months(Math.min(60, left));
        }
        return x;
    }

    private static void feedText(ProvinceCards x, String text) {
        for (int i = 0; i < text.length(); i++) {
            x.feed(text.charAt(i), 1);
        }
    }

    private static int spaOf(ProvinceCards x, String text) {
        feedText(x, text);
        return x.spa();
    }

    private static int owned(ProvinceCards x, int state) {
        int n = 0;
        for (int p = 0; p < 8; p++) {
            n += x.whose(p) == state ? 1 : 0;
        }
        return n;
    }

    private static void newObject() {
        promise = 1;
        ProvinceCards x = new ProvinceCards();
        due("count(0)", x.count(0), 0);
        due("count(1)", x.count(1), 0);
        due("count(2)", x.count(2), 8);
        due("count(3)", x.count(3), 0);
        int[] due = {0, 5, 0, 0, -1, -1, 50, 50};
        for (int what = 0; what < 8; what++) {
            due("now(" + what + ")", x.now(what), due[what]);
        }
        due("tear()", x.tear(), 0);
        due("wipe()", x.wipe(), 0);
        due("status(-1)", x.status(-1), 0);
        for (int s = 0; s < 4; s++) {
            due("lays(" + s + ")", x.lays(s), MISSING);
        }
    }

    private static void mix() {
        promise = 2;
        ProvinceCards x = new ProvinceCards();
        due("mix(1)", x.mix(1), 5);
        due("mix(31)", x.mix(31), 1);
        due("mix(17)", x.mix(17), 31);
        for (int v : new int[] {0, -1, 2, 30, 32, 33, -5, LEAST, MOST}) {
            due("mix(" + v + ")", x.mix(v), BEYOND);
        }
        due("now(1)", x.now(1), 17);
        due("status(0)", x.status(0), 9);
    }

    private static void provinceAndWhose() {
        promise = 3;
        ProvinceCards x = new ProvinceCards();
        due("province(0, 1)", x.province(0, 1), -1);
        due("province(7, 0)", x.province(7, 0), -1);
        due("province(0, 0)", x.province(0, 0), 1);
        due("province(0, -1)", x.province(0, -1), 0);
        due("province(7, 1)", x.province(7, 1), 0);
        for (int bad : new int[] {-1, 8, LEAST, MOST}) {
            due("province(" + bad + ", 0)", x.province(bad, 0), BEYOND);
        }
        for (int bad : new int[] {-2, 2, LEAST, MOST}) {
            due("province(7, " + bad + ")", x.province(7, bad), BEYOND);
        }
        promise = 4;
        due("whose(0)", x.whose(0), -1);
        due("whose(7)", x.whose(7), 1);
        for (int bad : new int[] {-1, 8, LEAST, MOST}) {
            due("whose(" + bad + ")", x.whose(bad), BEYOND);
        }
    }

    private static void treasury() {
        promise = 5;
        ProvinceCards x = new ProvinceCards();
        due("treasury(0, 0)", x.treasury(0, 0), 50);
        due("treasury(1, 99999)", x.treasury(1, 99999), 50);
        due("treasury(0, 7)", x.treasury(0, 7), 0);
        for (int bad : new int[] {-1, 100000, LEAST, MOST}) {
            due("treasury(0, " + bad + ")", x.treasury(0, bad), BEYOND);
        }
        for (int bad : new int[] {-1, 2, LEAST, MOST}) {
            due("treasury(" + bad + ", 1)", x.treasury(bad, 1), BEYOND);
        }
        due("now(6)", x.now(6), 7);
        due("now(7)", x.now(7), 99999);
    }

    private static void now() {
        promise = 6;
        ProvinceCards x = sent(4, 2);
        x.mix(9);
        x.treasury(1, 1000);
        x.send(0, -1);
        x.months(13);
        x.send(0, 5);
        int[] due = {13, 9, 1, 5, 5, 2, 50, 1000 + 1 + 2 + 3 + 4 + 5 + 6 + 7 + 8 * 6};
        for (int what = 0; what < 8; what++) {
            due("now(" + what + ")", x.now(what), due[what]);
        }
        for (int bad : new int[] {-1, 8, LEAST, MOST}) {
            due("now(" + bad + ")", x.now(bad), BEYOND);
        }
    }

    private static void card() {
        promise = 7;
        ProvinceCards x = new ProvinceCards();
        int[] dealt = {0, 5, 10, 15, 20, 25, 30, 3};
        for (int place = 0; place < 8; place++) {
            due("card(" + place + ", 0)", x.card(place, 0), dealt[place]);
            due("card(" + place + ", 31)", x.card(place, 31), (dealt[place] + 31) % 32);
        }
        due("card(0, 9999)", x.card(0, 9999), 15);
        x.months(10);
        due("card(1, 0)", x.card(1, 0), 5);
        x.mix(31);
        due("card(7, 1)", x.card(7, 1), 26);
        for (int bad : new int[] {-1, 8, LEAST, MOST}) {
            due("card(" + bad + ", 0)", x.card(bad, 0), BEYOND);
        }
        for (int bad : new int[] {-1, 10000, LEAST, MOST}) {
            due("card(0, " + bad + ")", x.card(0, bad), BEYOND);
        }
    }

    private static void envoy() {
        promise = 8;
        ProvinceCards x = six();
        due("envoy(5)", x.envoy(5), 6);
        due("envoy(6)", x.envoy(6), BEYOND);
        due("envoy(-1)", x.envoy(-1), BEYOND);
        due("envoy(MOST)", x.envoy(MOST), BEYOND);
        due("envoy(0)", x.envoy(0), 7);
        due("envoy(0)", x.envoy(0), FULL);
        due("envoy(6)", x.envoy(6), BEYOND);
        due("count(0)", x.count(0), 8);
        for (int envoy = 0; envoy < 6; envoy++) {
            due("of(" + envoy + ", 0)", x.of(envoy, 0), envoy);
            due("of(" + envoy + ", 1)", x.of(envoy, 1), 0);
        }
    }

    private static void of() {
        promise = 9;
        ProvinceCards x = sent(3, 3);
        due("of(3, 2)", x.of(3, 2), 3);
        x.send(1, 4);
        due("of(3, 2)", x.of(3, 2), 1);
        due("of(4, 2)", x.of(4, 2), 2);
        due("of(0, 2)", x.of(0, 2), 0);
        x.won(4, 12);
        due("of(4, 1)", x.of(4, 1), 12);
        due("of(4, 0)", x.of(4, 0), 4);
        for (int bad : new int[] {-1, 6, LEAST, MOST}) {
            due("of(" + bad + ", 0)", x.of(bad, 0), BEYOND);
        }
        for (int bad : new int[] {-1, 3, LEAST, MOST}) {
            due("of(0, " + bad + ")", x.of(0, bad), BEYOND);
        }
    }

    private static void turn() {
        promise = 10;
        ProvinceCards x = six();
        x.won(2, 40);
        due("turn(2, 5)", x.turn(2, 5), 2);
        due("turn(2, 5)", x.turn(2, 5), 5);
        due("of(2, 1)", x.of(2, 1), 40);
        for (int bad : new int[] {-1, 6, LEAST, MOST}) {
            due("turn(" + bad + ", 0)", x.turn(bad, 0), BEYOND);
            due("turn(2, " + bad + ")", x.turn(2, bad), BEYOND);
        }
        due("turn(2, 0)", x.turn(2, 0), 5);
        due("of(2, 0)", x.of(2, 0), 0);
    }

    private static void as() {
        promise = 11;
        ProvinceCards x = six();
        String[] are = {"100000", "110000", "101000", "100100", "110010", "101001"};
        for (int envoy = 0; envoy < 6; envoy++) {
            x.won(envoy, 70 + envoy);
            for (int kind = 0; kind < 6; kind++) {
                int want = are[envoy].charAt(kind) == '1' ? 70 + envoy : KIND;
                due("as(" + envoy + ", " + kind + ")", x.as(envoy, kind), want);
            }
        }
        due("status(2)", x.status(2), 23);
        for (int bad : new int[] {-1, 6, LEAST, MOST}) {
            due("as(" + bad + ", 0)", x.as(bad, 0), BEYOND);
            due("as(0, " + bad + ")", x.as(0, bad), BEYOND);
        }
    }

    private static void won() {
        promise = 12;
        ProvinceCards x = six();
        due("won(5, 9999)", x.won(5, 9999), 0);
        due("won(5, 0)", x.won(5, 0), 9999);
        due("won(0, 3)", x.won(0, 3), 0);
        for (int bad : new int[] {-1, 10000, LEAST, MOST}) {
            due("won(0, " + bad + ")", x.won(0, bad), BEYOND);
        }
        due("won(6, 1)", x.won(6, 1), BEYOND);
        due("won(-1, 1)", x.won(-1, 1), BEYOND);
        due("of(0, 1)", x.of(0, 1), 3);
    }

    private static void send() {
        promise = 13;
        ProvinceCards x = new ProvinceCards();
        due("send(0, 0)", x.send(0, 0), BEYOND);
        due("send(0, -1)", x.send(0, -1), -1);
        x = six();
        due("send(0, 5)", x.send(0, 5), -1);
        due("send(1, 5)", x.send(1, 5), -1);
        due("send(0, 0)", x.send(0, 0), 5);
        due("send(0, -1)", x.send(0, -1), 0);
        for (int bad : new int[] {-2, 6, LEAST, MOST}) {
            due("send(1, " + bad + ")", x.send(1, bad), BEYOND);
        }
        for (int bad : new int[] {-1, 2, LEAST, MOST}) {
            due("send(" + bad + ", 0)", x.send(bad, 0), BEYOND);
        }
        due("now(4)", x.now(4), -1);
        due("now(5)", x.now(5), 5);
    }

    private static void leads() {
        promise = 14;
        // Month 1, mix 5: hands 1 6 11 16 and 21 26 31 4; suit 1 is trump.
        ProvinceCards x = pass(six(), 1);
        int[] first = {6, 16, 11, 16, 16, 11};
        int[] second = {31, 26, 31, 26, 26, 31};
        for (int envoy = 0; envoy < 6; envoy++) {
            due("leads(" + envoy + ", 0)", x.leads(envoy, 0), first[envoy]);
            due("leads(" + envoy + ", 1)", x.leads(envoy, 1), second[envoy]);
        }
        // Mix 25 at month 1: hands 1 26 19 12 and 5 30 23 16.
        x.mix(25);
        due("leads(0, 0)", x.leads(0, 0), 12);
        due("leads(1, 0)", x.leads(1, 0), 1);
        // Month 6, mix 17: hands 6 23 8 25 and 10 27 12 29; suit 2 is trump.
        // (A hand has each rank once at most: no odd number times 1 to 3 is a multiple of 8.)
        x.months(5);
        x.mix(17);
        due("leads(0, 0)", x.leads(0, 0), 23);
        due("leads(5, 0)", x.leads(5, 0), 23);
        due("leads(2, 1)", x.leads(2, 1), 29);
        due("leads(1, 1)", x.leads(1, 1), 10);
        for (int bad : new int[] {-1, 6, LEAST, MOST}) {
            due("leads(" + bad + ", 0)", x.leads(bad, 0), BEYOND);
        }
        for (int bad : new int[] {-1, 2, LEAST, MOST}) {
            due("leads(0, " + bad + ")", x.leads(0, bad), BEYOND);
        }
    }

    private static void follows() {
        promise = 15;
        // Month 0, mix 5: hands 0 5 10 15 and 20 25 30 3; suit 0 is trump; scholars may play all.
        ProvinceCards x = six();
        int[] to9 = {10, 10, 0, 10, 10, 15};
        int[] to2 = {5, 0, 5, 0, 5, 5};
        int[] to24 = {0, 0, 0, 15, 0, 5};
        int[] to7 = {0, 0, 0, 5, 0, 0};
        for (int envoy = 0; envoy < 6; envoy++) {
            due("follows(" + envoy + ", 0, 9)", x.follows(envoy, 0, 9), to9[envoy]);
            due("follows(" + envoy + ", 0, 2)", x.follows(envoy, 0, 2), to2[envoy]);
            due("follows(" + envoy + ", 0, 24)", x.follows(envoy, 0, 24), to24[envoy]);
            due("follows(" + envoy + ", 0, 7)", x.follows(envoy, 0, 7), envoy == 2 || envoy == 5 ? 0 : to7[envoy]);
        }
        // The card led may be one of his own.
        due("follows(0, 1, 30)", x.follows(0, 1, 30), 25);
        due("follows(3, 1, 30)", x.follows(3, 1, 30), 30);
        due("follows(3, 1, 3)", x.follows(3, 1, 3), 3);
        due("follows(0, 1, 31)", x.follows(0, 1, 31), 25);
        for (int bad : new int[] {-1, 6, LEAST, MOST}) {
            due("follows(" + bad + ", 0, 0)", x.follows(bad, 0, 0), BEYOND);
        }
        for (int bad : new int[] {-1, 2, LEAST, MOST}) {
            due("follows(0, " + bad + ", 0)", x.follows(0, bad, 0), BEYOND);
        }
        for (int bad : new int[] {-1, 32, LEAST, MOST}) {
            due("follows(0, 0, " + bad + ")", x.follows(0, 0, bad), BEYOND);
        }
    }

    private static void followsOthers() {
        // Month 1, mix 1: hands 1 2 3 4 and 5 6 7 8; suit 1 is trump; nobody may revoke.
        ProvinceCards x = pass(six(), 1);
        x.mix(1);
        int[] to0 = {5, 5, 5, 5, 5, 7};
        int[] to5 = {6, 5, 6, 5, 5, 7};
        int[] to16 = {8, 8, 8, 7, 8, 8};
        int[] to9 = {8, 8, 8, 8, 8, 8};
        for (int envoy = 0; envoy < 6; envoy++) {
            due("follows(" + envoy + ", 1, 0)", x.follows(envoy, 1, 0), to0[envoy]);
            due("follows(" + envoy + ", 1, 5)", x.follows(envoy, 1, 5), to5[envoy]);
            due("follows(" + envoy + ", 1, 16)", x.follows(envoy, 1, 16), to16[envoy]);
            due("follows(" + envoy + ", 1, 9)", x.follows(envoy, 1, 9), to9[envoy]);
        }
        // Month 3: hands 3 4 5 6 and 7 8 9 10, suit 3 is trump, scholars may play all: only they leave the suit.
        x.months(2);
        int[] to11 = {8, 8, 8, 10, 8, 8};
        int[] to0At3 = {7, 7, 7, 7, 7, 7};
        for (int envoy = 0; envoy < 6; envoy++) {
            due("follows(" + envoy + ", 1, 11)", x.follows(envoy, 1, 11), to11[envoy]);
            due("follows(" + envoy + ", 1, 7)", x.follows(envoy, 1, 7), envoy == 2 || envoy == 5 ? 8 : 7);
            due("follows(" + envoy + ", 1, 0)", x.follows(envoy, 1, 0), to0At3[envoy]);
        }
    }

    private static void trick() {
        promise = 16;
        // Month 0, two of kind 0: 15 3, 30 0, 5 25, 10 20.
        ProvinceCards x = sent(0, 0);
        int[][] due = {{15, 3, 0, 1}, {0, 30, 1, 0}, {5, 25, 0, 0}, {10, 20, 0, 0}};
        rowsAre(x, due);
        // Month 0, foxes: 0 led; 3 follows, as trump is led; 25 led, none of its suit: 10; 30 of two led, 5; 20 led; 15.
        x = sent(4, 4);
        rowsAre(x, new int[][] {{0, 3, 0, 1}, {10, 25, 1, 1}, {5, 30, 1, 0}, {15, 20, 0, 0}});
        // Month 1: state 1 leads.
        x = pass(sent(1, 1), 1);
        rowsAre(x, new int[][] {{16, 26, 1, 1}, {1, 4, 1, 1}, {11, 21, 1, 0}, {6, 31, 0, 0}});
        due("now(0)", x.now(0), 1);
        for (int bad : new int[] {-1, 4, LEAST, MOST}) {
            due("trick(" + bad + ", 0)", x.trick(bad, 0), BEYOND);
            due("trick(0, " + bad + ")", x.trick(0, bad), BEYOND);
        }
        x.send(0, -1);
        due("trick(0, 0)", x.trick(0, 0), STATE);
        due("trick(4, 0)", x.trick(4, 0), BEYOND);
        due("trick(0, 4)", x.trick(0, 4), BEYOND);
        x.send(0, 1);
        x.send(1, -1);
        due("trick(3, 3)", x.trick(3, 3), STATE);
    }

    /** Whether a card beats one that was led, as the document has it. */
    private static boolean beats(int card, int led, int trump) {
        return card / 8 == led / 8 ? card > led : card / 8 == trump;
    }

    private static void tricksHangTogether(ProvinceCards x) {
        int leader = x.now(0) % 2;
        for (int t = 0; t < 4; t++) {
            boolean beaten = beats(x.trick(t, 1 - leader), x.trick(t, leader), x.now(2));
            due("trick(" + t + ", 2)", x.trick(t, 2), leader);
            leader = beaten ? 1 - leader : leader;
            due("trick(" + t + ", 3)", x.trick(t, 3), leader);
        }
    }

    private static void rowsAre(ProvinceCards x, int[][] due) {
        for (int t = 0; t < 4; t++) {
            for (int what = 0; what < 4; what++) {
                due("trick(" + t + ", " + what + ")", x.trick(t, what), due[t][what]);
            }
        }
    }

    private static void tricks() {
        promise = 17;
        ProvinceCards x = new ProvinceCards();
        due("tricks()", x.tricks(), STATE);
        due("status(4)", x.status(4), 1);
        x = sent(0, 0);
        due("tricks()", x.tricks(), 3);
        x.send(1, -1);
        due("tricks()", x.tricks(), STATE);
        for (int kind0 = 0; kind0 < 6; kind0++) {
            for (int kind1 = 0; kind1 < 6; kind1++) {
                x = pass(sent(kind0, kind1), kind0 + kind1);
                int of0 = 0;
                for (int t = 0; t < 4; t++) {
                    of0 += x.trick(t, 3) == 0 ? 1 : 0;
                }
                tricksHangTogether(x);
                due("tricks() of " + kind0 + " and " + kind1, x.tricks(), of0);
            }
        }
    }

    private static void months() {
        promise = 18;
        // Month 1 of two misers is drawn: a province that was somebody's is nobody's, and nobody has won.
        ProvinceCards x = pass(six(), 1);
        x.send(0, 1);
        x.send(1, 1);
        x.province(1, 1);
        x.province(5, 0);
        due("tricks()", x.tricks(), 2);
        due("months(1)", x.months(1), 7);
        due("whose(1)", x.whose(1), -1);
        due("count(3)", x.count(3), 0);
        due("now(0)", x.now(0), 2);
        due("now(6)", x.now(6), 51);
        due("now(7)", x.now(7), 50);
        eachMonthGoesAsTold();
        // One who is sent alone has provinces, but has won nothing.
        x = six();
        x.send(1, 3);
        due("months(3)", x.months(3), 5);
        due("of(3, 1)", x.of(3, 1), 0);
        due("now(7)", x.now(7), 56);
        x.send(1, -1);
        x.send(0, 3);
        due("months(60)", x.months(60), 0);
        due("then(0, 0, 0)", x.then(0, 0, 0), 255);
        x.send(0, -1);
        due("months(8)", x.months(8), 8);
        // Both may have the same one sent: he has won whichever state has.
        x = six();
        x.send(0, 5);
        x.send(1, 5);
        int won = 0;
        for (int i = 0; i < 20; i++) {
            won += x.tricks() == 2 ? 0 : 1;
            x.months(1);
        }
        due("of(5, 1)", x.of(5, 1), won);
        for (int bad : new int[] {0, -1, 61, LEAST, MOST}) {
            due("months(" + bad + ")", x.months(bad), BEYOND);
        }
        due("now(0)", x.now(0), 20);
    }

    /** What a twin tells of each month ahead of it is what comes to pass. */
    private static void eachMonthGoesAsTold() {
        for (int pair = 0; pair < 36; pair++) {
            ProvinceCards x = sent(pair / 6, pair % 6);
            ProvinceCards twin = sent(pair / 6, pair % 6);
            x.mix(2 * (pair % 16) + 1);
            twin.mix(2 * (pair % 16) + 1);
            int[] won = new int[6];
            int[] purse = {50, 50};
            for (int month = 0; month < 20; month++) {
                int of0 = twin.tricks();
                twin.months(1);
                int whose = of0 > 2 ? 0 : of0 < 2 ? 1 : -1;
                if (whose >= 0) {
                    won[whose == 0 ? pair / 6 : pair % 6]++;
                }
                int free = x.months(1);
                int of1 = owned(x, 1);
                int none = owned(x, -1);
                due("months(1)", free, none);
                due("whose()", x.whose(month % 8), whose);
                purse[0] += 8 - of1 - none;
                purse[1] += of1;
                due("now(6)", x.now(6), purse[0]);
                due("now(7)", x.now(7), purse[1]);
            }
            for (int envoy = 0; envoy < 6; envoy++) {
                due("of(" + envoy + ", 1)", x.of(envoy, 1), won[envoy]);
            }
        }
    }

    private static void lastMonth() {
        ProvinceCards x = sent(0, -1);
        x.treasury(0, 99995);
        due("months(1)", x.months(1), 7);
        due("months(1)", x.months(1), 6);
        due("now(6)", x.now(6), 99998);
        x.months(1);
        due("now(6)", x.now(6), 99999);
        pass(x, 9900 - 3);
        x.months(40);
        due("months(60)", x.months(60), STATE);
        due("now(0)", x.now(0), 9940);
        due("months(59)", x.months(59), 0);
        due("now(0)", x.now(0), 9999);
        due("now(2)", x.now(2), 3);
        due("now(3)", x.now(3), 7);
        due("months(1)", x.months(1), STATE);
        due("months(0)", x.months(0), BEYOND);
        due("status(4)", x.status(4), 2);
        // What is ahead goes on beyond the last month.
        x.send(0, -1);
        x.send(1, 0);
        due("on(7, 1)", x.on(7, 1), 1);
        due("on(0, 1)", x.on(0, 1), 0);
        due("on(0, 2)", x.on(0, 2), 1);
        due("all(1)", x.all(1), 8);
    }

    private static void on() {
        promise = 19;
        ProvinceCards x = sent(2, 4);
        x.province(3, 1);
        due("on(3, 0)", x.on(3, 0), 1);
        for (int n : new int[] {1, 2, 7, 8, 9, 40, 60}) {
            int[] ahead = new int[8];
            for (int p = 0; p < 8; p++) {
                ahead[p] = x.on(p, n);
            }
            x.image();
            x.months(n);
            for (int p = 0; p < 8; p++) {
                due("on(" + p + ", " + n + ")", ahead[p], x.whose(p));
            }
            x.undo();
        }
        due("now(0)", x.now(0), 0);
        due("count(3)", x.count(3), 0);
        x.send(0, -1);
        due("on(6, 6)", x.on(6, 6), -1);
        due("on(6, 7)", x.on(6, 7), 1);
        due("on(7, 100)", x.on(7, 100), 1);
        for (int bad : new int[] {-1, 101, LEAST, MOST}) {
            due("on(0, " + bad + ")", x.on(0, bad), BEYOND);
        }
        for (int bad : new int[] {-1, 8, LEAST, MOST}) {
            due("on(" + bad + ", 0)", x.on(bad, 0), BEYOND);
        }
    }

    private static void then() {
        promise = 20;
        ProvinceCards x = six();
        x.send(1, 2);
        x.province(7, 0);
        due("then(0, 0, 0)", x.then(0, 0, 0), 128);
        due("then(0, 0, 1)", x.then(0, 0, 1), 50);
        due("then(1, 3, 0)", x.then(1, 3, 0), 7);
        due("then(1, 3, 1)", x.then(1, 3, 1), 56);
        due("then(0, 7, 1)", x.then(0, 7, 1), 57);
        due("then(0, 8, 0)", x.then(0, 8, 0), 0);
        due("then(0, 8, 1)", x.then(0, 8, 1), 57);
        due("then(1, 100, 1)", x.then(1, 100, 1), 50 + 28 + 93 * 8);
        x.treasury(1, 99990);
        due("then(1, 100, 1)", x.then(1, 100, 1), 99999);
        due("now(7)", x.now(7), 99990);
        for (int bad : new int[] {-1, 2, LEAST, MOST}) {
            due("then(" + bad + ", 0, 0)", x.then(bad, 0, 0), BEYOND);
            due("then(0, 0, " + bad + ")", x.then(0, 0, bad), BEYOND);
        }
        due("then(0, -1, 0)", x.then(0, -1, 0), BEYOND);
        due("then(0, 101, 0)", x.then(0, 101, 0), BEYOND);
        due("then(0, 101, 1)", x.then(0, 101, 1), BEYOND);
    }

    private static void when() {
        promise = 21;
        ProvinceCards x = six();
        x.send(0, 1);
        due("when(0, 0)", x.when(0, 0), 1);
        due("when(7, 0)", x.when(7, 0), 8);
        due("when(7, -1)", x.when(7, -1), 0);
        due("when(7, 1)", x.when(7, 1), NONE);
        x.province(7, 1);
        due("when(7, 1)", x.when(7, 1), 0);
        due("when(7, -1)", x.when(7, -1), NONE);
        x.months(3);
        due("when(2, 0)", x.when(2, 0), 0);
        x.province(2, 1);
        due("when(2, 0)", x.when(2, 0), 8);
        due("status(3)", x.status(3), 2);
        latestWhen();
        for (int bad : new int[] {-1, 8, LEAST, MOST}) {
            due("when(" + bad + ", 0)", x.when(bad, 0), BEYOND);
        }
        for (int bad : new int[] {-2, 2, LEAST, MOST}) {
            due("when(0, " + bad + ")", x.when(0, bad), BEYOND);
        }
    }

    /** Whatever when() answers is what on() tells; as months come again after 96, none is first later than that. */
    private static void latestWhen() {
        ProvinceCards late = sent(0, 2);
        late.mix(11);
        late.months(19);
        for (int p = 0; p < 8; p++) {
            late.province(p, -1);
        }
        due("when(2, 0)", late.when(2, 0), 96);
        for (int pair = 0; pair < 36; pair++) {
            ProvinceCards x = sent(pair / 6, pair % 6);
            for (int state = -1; state < 2; state++) {
                int first = NONE;
                for (int n = 100; n >= 0; n--) {
                    first = x.on(3, n) == state ? n : first;
                }
                due("when(3, " + state + ")", x.when(3, state), first);
            }
        }
    }

    private static void all() {
        promise = 22;
        ProvinceCards x = six();
        due("all(0)", x.all(0), NONE);
        x.send(1, 0);
        due("all(1)", x.all(1), 8);
        due("all(0)", x.all(0), NONE);
        x.months(5);
        due("all(1)", x.all(1), 3);
        x.province(0, 0);
        due("all(1)", x.all(1), 4);
        for (int p = 0; p < 8; p++) {
            x.province(p, 0);
        }
        due("all(0)", x.all(0), 0);
        for (int bad : new int[] {-1, 2, LEAST, MOST}) {
            due("all(" + bad + ")", x.all(bad), BEYOND);
        }
        due("now(0)", x.now(0), 5);
        due("status(3)", x.status(3), 2);
        x = sent(2, 0);
        x.mix(21);
        x.months(4);
        for (int p = 0; p < 8; p++) {
            x.province(p, -1);
        }
        due("all(0)", x.all(0), 70);
        due("then(0, 70, 0)", x.then(0, 70, 0), 255);
    }

    private static void best() {
        promise = 23;
        ProvinceCards x = new ProvinceCards();
        due("best(0, 1)", x.best(0, 1), NONE);
        due("best(0, 0)", x.best(0, 0), BEYOND);
        for (int other = -1; other < 6; other++) {
            x = sent(-1, other);
            for (int n : new int[] {1, 5, 8, 13, 40}) {
                int most = -1;
                int best = -1;
                for (int envoy = 0; envoy < 6; envoy++) {
                    x.send(0, envoy);
                    int has = Integer.bitCount(x.then(0, n, 0));
                    best = has > most ? envoy : best;
                    most = Math.max(has, most);
                }
                x.send(0, other);
                due("best(0, " + n + ")", x.best(0, n), best);
                due("now(4)", x.now(4), other);
            }
        }
        x.send(0, -1);
        x.send(1, -1);
        due("best(1, 40)", x.best(1, 40), 0);
        // With all eight there, and with one alone.
        x.envoy(1);
        x.envoy(1);
        due("best(1, 40)", x.best(1, 40), 0);
        for (int n = 1; n <= 40; n++) {
            ProvinceCards alone = new ProvinceCards();
            alone.envoy(3);
            alone.send(0, 0);
            due("best(1, " + n + ")", alone.best(1, n), 0);
        }
        for (int bad : new int[] {-1, 0, 41, LEAST, MOST}) {
            due("best(0, " + bad + ")", x.best(0, bad), BEYOND);
        }
        for (int bad : new int[] {-1, 2, LEAST, MOST}) {
            due("best(" + bad + ", 1)", x.best(bad, 1), BEYOND);
        }
    }

    private static void mixed() {
        promise = 24;
        for (int pair = 0; pair < 36; pair += 5) {
            for (int n : new int[] {1, 6, 8, 40}) {
                ProvinceCards x = sent(pair / 6, pair % 6);
                for (int state = 0; state < 2; state++) {
                    due("mixed(" + state + ", " + n + ")", x.mixed(state, n), mixByHand(x, state, n));
                }
                due("now(1)", x.now(1), 5);
            }
        }
        due("mixed(0, 3)", sent(0, 0).mixed(0, 3), 31);
        ProvinceCards x = new ProvinceCards();
        due("mixed(0, 40)", x.mixed(0, 40), 1);
        for (int bad : new int[] {-1, 0, 41, LEAST, MOST}) {
            due("mixed(0, " + bad + ")", x.mixed(0, bad), BEYOND);
        }
        for (int bad : new int[] {-1, 2, LEAST, MOST}) {
            due("mixed(" + bad + ", 1)", x.mixed(bad, 1), BEYOND);
        }
    }

    private static int mixByHand(ProvinceCards x, int state, int n) {
        int was = x.now(1);
        int best = 0;
        int most = -1;
        for (int v = 1; v < 32; v += 2) {
            x.mix(v);
            int has = 0;
            for (int p = 0; p < 8; p++) {
                has += x.on(p, n) == state ? 1 : 0;
            }
            best = has > most ? v : best;
            most = Math.max(has, most);
        }
        x.mix(was);
        return best;
    }

    private static void kind() {
        promise = 25;
        for (int pair = 0; pair < 36; pair++) {
            ProvinceCards x = sent(pair / 6, pair % 6);
            x.won(pair / 6, 5);
            x.image();
            int n = 1 + pair;
            int most = -1;
            int best = -1;
            for (int kind = 0; kind < 6; kind++) {
                x.turn(pair / 6, kind);
                x.months(n);
                int won = x.of(pair / 6, 1);
                best = won > most ? kind : best;
                most = Math.max(won, most);
                x.undo();
            }
            due("kind(" + pair / 6 + ", " + n + ")", x.kind(pair / 6, n), best);
            due("of(, 0)", x.of(pair / 6, 0), pair / 6);
        }
        ProvinceCards x = sent(3, 4);
        x.won(3, 9999);
        due("kind(3, 40)", x.kind(3, 40), 0);
        due("kind(5, 40)", x.kind(5, 40), 0);
        for (int bad : new int[] {-1, 0, 41, LEAST, MOST}) {
            due("kind(0, " + bad + ")", x.kind(0, bad), BEYOND);
        }
        for (int bad : new int[] {-1, 6, LEAST, MOST}) {
            due("kind(" + bad + ", 1)", x.kind(bad, 1), BEYOND);
        }
    }

    private static void rest() {
        promise = 26;
        for (int pair = 0; pair < 36; pair += 5) {
            for (int n : new int[] {1, 4, 30}) {
                ProvinceCards x = sent(pair / 6, pair % 6);
                x.months(8);
                x.image();
                due("rest(0, " + n + ")", x.rest(0, n), restByHand(x, 0, n));
                due("rest(1, " + n + ")", x.rest(1, n), restByHand(x, 1, n));
                due("now(0)", x.now(0), 8);
                due("now(4)", x.now(4), pair / 6);
            }
        }
        due("rest(0, 9)", sent(0, 1).rest(0, 9), 30);
        // What is held elsewhere is lost while both rest.
        ProvinceCards x = six();
        x.send(0, 0);
        x.province(7, 0);
        due("rest(0, 8)", x.rest(0, 8), 0);
        due("rest(1, 8)", x.rest(1, 8), 0);
        for (int bad : new int[] {-1, 0, 31, LEAST, MOST}) {
            due("rest(0, " + bad + ")", x.rest(0, bad), BEYOND);
        }
        for (int bad : new int[] {-1, 2, LEAST, MOST}) {
            due("rest(" + bad + ", 1)", x.rest(bad, 1), BEYOND);
        }
    }

    private static int restByHand(ProvinceCards x, int state, int n) {
        int most = -1;
        int best = -1;
        for (int idle = 0; idle <= 30; idle++) {
            int sent0 = x.send(0, -1);
            int sent1 = x.send(1, -1);
            pass(x, idle);
            x.send(0, sent0);
            x.send(1, sent1);
            int has = Integer.bitCount(x.then(state, n, 0));
            best = has > most ? idle : best;
            most = Math.max(has, most);
            x.undo();
        }
        return best;
    }

    private static void peace() {
        promise = 27;
        for (int pair = 0; pair < 36; pair += 5) {
            ProvinceCards x = sent(pair / 6, pair % 6);
            x.province(6, 1);
            for (int n : new int[] {1, 7, 40}) {
                due("peace(" + n + ")", x.peace(n), mixByHand(x, -1, n));
            }
            due("now(1)", x.now(1), 5);
        }
        ProvinceCards x = new ProvinceCards();
        due("peace(1)", x.peace(1), 1);
        for (int bad : new int[] {-1, 0, 41, LEAST, MOST}) {
            due("peace(" + bad + ")", x.peace(bad), BEYOND);
        }
    }

    private static void champion() {
        promise = 28;
        ProvinceCards x = new ProvinceCards();
        due("champion(0)", x.champion(0), NONE);
        due("champion(101)", x.champion(101), BEYOND);
        x = six();
        due("champion(100)", x.champion(100), 0);
        x.won(4, 3);
        x.won(5, 3);
        due("champion(0)", x.champion(0), 4);
        x.won(5, 9999);
        due("champion(0)", x.champion(0), 5);
        x.envoy(0);
        x.envoy(0);
        x.won(5, 3);
        x.won(7, 4);
        due("champion(0)", x.champion(0), 7);
        for (int pair = 0; pair < 36; pair++) {
            x = sent(pair / 6, pair % 6);
            x.won(2, 3);
            int told = x.champion(pair);
            pass(x, pair);
            int first = 0;
            for (int envoy = 1; envoy < 6; envoy++) {
                first = x.of(envoy, 1) > x.of(first, 1) ? envoy : first;
            }
            due("champion(" + pair + ")", told, first);
        }
        for (int bad : new int[] {-1, 101, LEAST, MOST}) {
            due("champion(" + bad + ")", x.champion(bad), BEYOND);
        }
    }

    private static void feedAndWipe() {
        promise = 29;
        ProvinceCards x = new ProvinceCards();
        due("feed(1, 0)", x.feed(1, 0), BEYOND);
        due("feed(1, 5)", x.feed(1, 5), BEYOND);
        due("feed(1, -1)", x.feed(1, -1), BEYOND);
        due("feed(1, MOST)", x.feed(1, MOST), BEYOND);
        due("feed('fox ', 4)", x.feed(0x666f7820, 4), 4);
        due("feed(.'for', 3)", x.feed(0x7f666f72, 3), 7);
        due("feed('1', 1)", x.feed(0xffffff31, 1), 8);
        due("spa()", x.spa(), 1);
        due("now(5)", x.now(5), 0);
        for (int i = 1; i <= 29; i++) {
            due("feed(-1, 4)", x.feed(-1, 4), 4 * i);
        }
        due("feed(0, 3)", x.feed(0, 3), 119);
        due("feed(0, 2)", x.feed(0, 2), FULL);
        due("feed(0, 5)", x.feed(0, 5), BEYOND);
        due("count(1)", x.count(1), 119);
        due("feed(0, 1)", x.feed(0, 1), 120);
        due("feed(0, 1)", x.feed(0, 1), FULL);
        due("status(1)", x.status(1), 2);
        promise = 30;
        due("wipe()", x.wipe(), 120);
        due("wipe()", x.wipe(), 0);
        due("count(1)", x.count(1), 0);
        due("feed(0, 4)", x.feed(0, 4), 4);
    }

    private static void spa() {
        promise = 31;
        ProvinceCards x = new ProvinceCards();
        due("spa()", spaOf(x, "envoy;miser for 1;scholar;bribed;fox for 0;marshal for 1"), 6);
        due("count(1)", x.count(1), 0);
        due("count(0)", x.count(0), 6);
        for (int envoy = 0; envoy < 6; envoy++) {
            due("of(" + envoy + ", 0)", x.of(envoy, 0), envoy);
        }
        due("now(4)", x.now(4), 4);
        due("now(5)", x.now(5), 5);
        due("spa()", spaOf(x, "  mix31 ; province7 1;province 00 free ;province 2 0;mix 003;province 2 1  "), 6);
        due("now(1)", x.now(1), 3);
        due("whose(7)", x.whose(7), 1);
        due("whose(0)", x.whose(0), -1);
        due("whose(2)", x.whose(2), 1);
        due("spa()", spaOf(x, "province 7 free"), 1);
        due("whose(7)", x.whose(7), -1);
        due("spa()", spaOf(x, "fox for0;fox for 0000000000000000000000000000000000000000000000000000000000000000001"), 2);
        due("now(4)", x.now(4), 6);
        due("now(5)", x.now(5), 7);
        due("now(0)", x.now(0), 0);
        // What stood behind the end on an older tape is no part of this one.
        due("spa()", spaOf(x, "mix 29"), 1);
        due("now(1)", x.now(1), 29);
        due("spa()", spaOf(x, "mix 9"), 1);
        due("now(1)", x.now(1), 9);
        due("spa()", spaOf(x, "mix 1"), 1);
        due("now(1)", x.now(1), 1);
        x = new ProvinceCards();
        StringBuilder most = new StringBuilder("mix1");
        for (int i = 0; i < 23; i++) {
            most.append(";mix").append(i % 9 == 0 ? 1 : 3);
        }
        due("spa()", spaOf(x, most.toString()), 24);
        due("now(1)", x.now(1), 3);
    }

    private static void spaFaults() {
        String[] texts = {"", "   ", ";", "fox;", "fox; ", "fox ;;", "foxes", "fox for", "fox for ", "fox for 2", "fox for x",
            "fox for;", "foxfor 1", "fox fox", "fox 1", "mix", "mix 0", "mix 4", "mix 32", "mix 33", "mix 1000", "mix 4294967297",
            "mix 5 5", "mix x", "mix;", "mix 5x", "province", "province 8 1", "province 1", "province 1 ", "province 1 2",
            "province 1 fre", "province 1 free 1", "province 11", "province free 1", "free", "for 1", "1", "Fox", "fox\tfor 1",
            "\tfox", "fox#", "fox for -1", "mix 5;province 3 0;fix", "mix 7,", "province 1000 0", "province 0 1000", "mix 5 ; ", "foxz",
            "afox"};
        int[] places = {0, 3, 0, 4, 5, 5, 0, 7, 8, 8, 8, 7, 0, 4, 4, 3, 4, 4, 4, 4, 4, 4, 6, 4, 3, 5, 8, 9, 10, 11, 11, 11, 16, 9, 9,
            0, 0, 0, 0, 3, 0, 3, 8, 19, 5, 9, 11, 8, 0, 0};
        for (int i = 0; i < texts.length; i++) {
            ProvinceCards x = six();
            x.send(1, 3);
            due("spa() of '" + texts[i] + "'", spaOf(x, texts[i]), -1 - places[i]);
            due("count(1)", x.count(1), 0);
            due("count(0)", x.count(0), 6);
            due("now(1)", x.now(1), 5);
            due("now(4)", x.now(4), -1);
            due("now(5)", x.now(5), 3);
            due("whose(3)", x.whose(3), -1);
            due("status(-1)", x.status(-1), 0);
        }
        ProvinceCards x = six();
        // Bytes above 127, and those next to the letters and digits, begin no token.
        due("spa()", spaOf(x, "mix 5;\u00e9"), -7);
        due("spa()", spaOf(x, "\u0000"), -1);
        due("spa()", spaOf(x, "mix 5{"), -6);
        due("spa()", spaOf(x, "mix 5`"), -6);
        due("spa()", spaOf(x, "mix 5:"), -6);
        due("spa()", spaOf(x, "mix 5/"), -6);
    }

    private static void spaNinth() {
        ProvinceCards x = new ProvinceCards();
        due("spa()", spaOf(x, "fox;fox;fox;fox;fox;fox;fox;fox; fox"), -34);
        due("count(0)", x.count(0), 0);
        due("spa()", spaOf(x, "fox;fox;fox;fox;fox;fox;fox;fox"), 8);
        due("count(0)", x.count(0), 8);
        due("spa()", spaOf(x, "mix 7; miser for 3"), -8);
        due("spa()", spaOf(x, "mix 7; misers"), -8);
        due("now(1)", x.now(1), 5);
        // One that undo() took back leaves nothing to the next in his place.
        x = new ProvinceCards();
        x.image();
        x.envoy(3);
        x.won(0, 44);
        x.undo();
        due("spa()", spaOf(x, "scholar"), 1);
        due("of(0, 1)", x.of(0, 1), 0);
    }

    private static void sheet() {
        promise = 32;
        ProvinceCards x = new ProvinceCards();
        due("sheet(0, 8, 40)", x.sheet(0, 8, 40), 40);
        due("sheet(3, 16, 1)", x.sheet(3, 16, 1), 1);
        due("sheet(1, 64, 0)", x.sheet(1, 64, 0), 0);
        due("lays(1)", x.lays(1), 0);
        due("sheet(0, 0, 40)", x.sheet(0, 0, 40), 0);
        due("lays(0)", x.lays(0), MISSING);
        due("sheet(0, 0, 41)", x.sheet(0, 0, 41), BEYOND);
        due("sheet(0, 0, -1)", x.sheet(0, 0, -1), SIZE);
        due("sheet(0, 8, -1)", x.sheet(0, 8, -1), SIZE);
        due("sheet(0, 8, LEAST)", x.sheet(0, 8, LEAST), SIZE);
        due("sheet(0, 8, 41)", x.sheet(0, 8, 41), BEYOND);
        due("sheet(0, 8, MOST)", x.sheet(0, 8, MOST), BEYOND);
        for (int bad : new int[] {-1, 1, 7, 32, 65, LEAST, MOST}) {
            due("sheet(0, " + bad + ", -1)", x.sheet(0, bad, -1), BEYOND);
        }
        for (int bad : new int[] {-1, 4, LEAST, MOST}) {
            due("sheet(" + bad + ", 8, -1)", x.sheet(bad, 8, -1), BEYOND);
        }
        due("lays(0)", x.lays(0), MISSING);
        due("write(3, 0, 9)", x.write(3, 0, 9), 0);
        due("sheet(3, 16, 41)", x.sheet(3, 16, 41), BEYOND);
        due("write(3, 0, 9)", x.write(3, 0, 9), 9);
        due("sheet(3, 16, 1)", x.sheet(3, 16, 1), 1);
        due("write(3, 0, 9)", x.write(3, 0, 9), 0);
        due("status(6)", x.status(6), 3);
    }

    private static void write() {
        promise = 33;
        ProvinceCards x = new ProvinceCards();
        due("write(0, 0, 1)", x.write(0, 0, 1), MISSING);
        due("write(4, 0, 1)", x.write(4, 0, 1), BEYOND);
        due("write(-1, 0, 1)", x.write(-1, 0, 1), BEYOND);
        x.sheet(0, 8, 3);
        x.sheet(1, 16, 3);
        x.sheet(2, 64, 40);
        long[] given = {1, 127, 128, 255, 256, -128, -129, 32767, 32768, 65535, 65536, -32769, Long.MAX_VALUE, Long.MIN_VALUE};
        long[] of8 = {1, 127, -128, -1, 0, -128, 127, -1, 0, -1, 0, -1, -1, 0};
        long[] of16 = {1, 127, 128, 255, 256, -128, -129, 32767, -32768, -1, 0, 32767, -1, 0};
        for (int i = 0; i < given.length; i++) {
            x.write(0, 2, given[i]);
            x.write(1, 2, given[i]);
            x.write(2, 39, given[i]);
            due("write(0, 2)", x.write(0, 2, 0), of8[i]);
            due("write(1, 2)", x.write(1, 2, 0), of16[i]);
            due("write(2, 39)", x.write(2, 39, 0), given[i]);
        }
        due("write(0, 3, 1)", x.write(0, 3, 1), BEYOND);
        due("write(0, -1, 1)", x.write(0, -1, 1), BEYOND);
        due("write(0, LEAST, 1)", x.write(0, LEAST, 1), BEYOND);
        due("write(2, 40, 1)", x.write(2, 40, 1), BEYOND);
        due("write(2, MOST, 1)", x.write(2, MOST, 1), BEYOND);
        due("write(3, 0, 1)", x.write(3, 0, 1), MISSING);
        due("write(3, -1, 1)", x.write(3, -1, 1), MISSING);
        // A number that looks like a finding is none.
        x.write(2, 0, BEYOND);
        int before = x.status(-1);
        due("write(2, 0, 0)", x.write(2, 0, 0), BEYOND);
        due("status(-1)", x.status(-1), before);
        due("status(5)", x.status(5), 3);
        due("write(0, 0, 0)", x.write(0, 0, 0), 0);
    }

    private static void copy() {
        promise = 34;
        ProvinceCards x = new ProvinceCards();
        due("copy(0, 0, 1, 0, 0)", x.copy(0, 0, 1, 0, 0), MISSING);
        due("copy(0, 0, 4, 0, 0)", x.copy(0, 0, 4, 0, 0), BEYOND);
        due("copy(-1, 0, 0, 0, 0)", x.copy(-1, 0, 0, 0, 0), BEYOND);
        x.sheet(0, 16, 6);
        due("copy(0, 0, 1, 0, -1)", x.copy(0, 0, 1, 0, -1), MISSING);
        due("copy(1, 0, 0, 0, -1)", x.copy(1, 0, 0, 0, -1), MISSING);
        x.sheet(1, 16, 4);
        x.sheet(2, 8, 4);
        due("copy(0, 0, 2, 0, -1)", x.copy(0, 0, 2, 0, -1), KIND);
        for (int i = 0; i < 6; i++) {
            x.write(0, i, 100 + i);
        }
        due("copy(0, 2, 1, 0, 4)", x.copy(0, 2, 1, 0, 4), 4);
        numbersAre(x, 1, 102, 103, 104, 105);
        due("copy(0, 0, 0, 1, 5)", x.copy(0, 0, 0, 1, 5), 5);
        numbersAre(x, 0, 100, 100, 101, 102, 103, 104);
        due("copy(0, 1, 0, 0, 5)", x.copy(0, 1, 0, 0, 5), 5);
        numbersAre(x, 0, 100, 101, 102, 103, 104, 104);
        due("copy(0, 6, 1, 4, 0)", x.copy(0, 6, 1, 4, 0), 0);
        due("copy(0, 7, 1, 4, 0)", x.copy(0, 7, 1, 4, 0), BEYOND);
        due("copy(0, 6, 1, 5, 0)", x.copy(0, 6, 1, 5, 0), BEYOND);
        due("copy(0, 0, 1, 0, 5)", x.copy(0, 0, 1, 0, 5), BEYOND);
        due("copy(1, 0, 0, 0, 5)", x.copy(1, 0, 0, 0, 5), BEYOND);
        due("copy(0, -1, 1, 0, 1)", x.copy(0, -1, 1, 0, 1), BEYOND);
        due("copy(0, 0, 1, -1, 1)", x.copy(0, 0, 1, -1, 1), BEYOND);
        due("copy(0, 0, 1, 0, -1)", x.copy(0, 0, 1, 0, -1), BEYOND);
        due("copy(0, 3, 1, 0, 4)", x.copy(0, 3, 1, 0, 4), BEYOND);
        due("copy(0, 0, 1, 1, 4)", x.copy(0, 0, 1, 1, 4), BEYOND);
        due("copy(0, MOST, 1, 0, MOST)", x.copy(0, MOST, 1, 0, MOST), BEYOND);
        due("copy(0, 0, 1, MOST, 1)", x.copy(0, 0, 1, MOST, 1), BEYOND);
        due("copy(0, 1, 1, 1, MOST)", x.copy(0, 1, 1, 1, MOST), BEYOND);
        due("copy(0, 0, 1, 0, LEAST)", x.copy(0, 0, 1, 0, LEAST), BEYOND);
        numbersAre(x, 1, 102, 103, 104, 105);
        due("status(2)", x.status(2), 1);
        due("status(5)", x.status(5), 3);
    }

    private static void numbersAre(ProvinceCards x, int s, long... due) {
        for (int i = 0; i < due.length; i++) {
            due("number " + i + " of sheet " + s, x.write(s, i, 0), due[i]);
            x.write(s, i, due[i]);
        }
    }

    private static void lays() {
        promise = 35;
        ProvinceCards x = new ProvinceCards();
        due("lays(0)", x.lays(0), MISSING);
        due("lays(4)", x.lays(4), BEYOND);
        due("lays(-1)", x.lays(-1), BEYOND);
        x.sheet(0, 64, 10);
        long[] given = {1, 2, -1, -2, 4294967296L, 0, 1, 1, 1, 0};
        int[] due = {1, 1, -1, 1, 1, 0, 1, 1};
        for (int i = 0; i < 10; i++) {
            x.write(0, i, given[i]);
        }
        for (int p = 0; p < 8; p++) {
            x.province(p, 1);
        }
        due("lays(0)", x.lays(0), 5);
        for (int p = 0; p < 8; p++) {
            due("whose(" + p + ")", x.whose(p), due[p]);
        }
        x.sheet(1, 8, 2);
        x.write(1, 0, 255);
        due("lays(1)", x.lays(1), 2);
        due("whose(0)", x.whose(0), -1);
        due("whose(1)", x.whose(1), 0);
        due("whose(6)", x.whose(6), 1);
    }

    private static void book() {
        promise = 36;
        ProvinceCards x = six();
        due("book(0, 0)", x.book(0, 0), MISSING);
        due("book(0, 2)", x.book(0, 2), MISSING);
        due("book(4, 0)", x.book(4, 0), BEYOND);
        due("book(-1, 0)", x.book(-1, 0), BEYOND);
        x.send(1, 4);
        x.sheet(0, 16, 10);
        x.sheet(1, 8, 10);
        due("book(0, 2)", x.book(0, 2), BEYOND);
        due("book(0, -1)", x.book(0, -1), BEYOND);
        due("book(0, 1)", x.book(0, 1), 10);
        numbersAre(x, 0, 0, 1, 3, 7, 15, 31, 63, 127, 255, 255);
        due("book(1, 1)", x.book(1, 1), 10);
        numbersAre(x, 1, 0, 1, 3, 7, 15, 31, 63, 127, -1, -1);
        due("now(0)", x.now(0), 0);
        x.send(0, 5);
        x.sheet(2, 64, 40);
        due("book(2, 0)", x.book(2, 0), 40);
        for (int n = 0; n < 40; n++) {
            int set = x.then(0, n, 0);
            due("number " + n, x.write(2, n, 0), set);
        }
        x.sheet(3, 64, 0);
        due("book(3, 0)", x.book(3, 0), 0);
    }

    private static void read() {
        promise = 37;
        ProvinceCards x = sent(2, 4);
        due("read(0, 0, 0)", x.read(0, 0, 0), MISSING);
        due("read(0, 2, 9)", x.read(0, 2, 9), MISSING);
        due("read(4, 0, 0)", x.read(4, 0, 0), BEYOND);
        due("read(-1, 0, 0)", x.read(-1, 0, 0), BEYOND);
        x.sheet(0, 16, 0);
        due("read(0, 1, 4)", x.read(0, 1, 4), 96);
        for (int bad : new int[] {-1, 2, LEAST, MOST}) {
            due("read(0, " + bad + ", 0)", x.read(0, bad, 0), BEYOND);
        }
        for (int bad : new int[] {-1, 6, LEAST, MOST}) {
            due("read(0, 0, " + bad + ")", x.read(0, 0, bad), BEYOND);
        }
        for (int size : new int[] {1, 2, 4, 9, 40}) {
            for (int envoy : new int[] {2, 4, 5}) {
                due("read of " + size, readAfterBook(x, size, 0, envoy), readByTwins(size, 0, envoy));
                due("read of " + size, readAfterBook(x, size, 1, envoy), readByTwins(size, 1, envoy));
            }
        }
        due("of(2, 0)", x.of(2, 0), 2);
        due("now(1)", x.now(1), 5);
        x.sheet(0, 16, 40);
        x.book(0, 0);
        x.write(0, 39, 256);
        due("read(0, 0, 2)", x.read(0, 0, 2), 0);
        // 255 does not stand in 8 bits: it reads as -1.
        for (int p = 0; p < 8; p++) {
            x.province(p, 1);
        }
        x.sheet(1, 8, 1);
        x.book(1, 1);
        due("read(1, 1, 2)", x.read(1, 1, 2), 0);
        x.sheet(1, 16, 1);
        x.book(1, 1);
        due("read(1, 1, 2)", x.read(1, 1, 2), 96);
    }

    private static int readAfterBook(ProvinceCards x, int size, int state, int envoy) {
        x.sheet(0, 16, size);
        x.book(0, state);
        return x.read(0, state, envoy);
    }

    /** A twin for each pair, as one object is asked 512 times at most. */
    private static int readByTwins(int size, int state, int envoy) {
        int pairs = 0;
        for (int i = 0; i < 96; i++) {
            ProvinceCards told = sent(2, 4);
            ProvinceCards twin = sent(2, 4);
            twin.turn(envoy, i / 16);
            twin.mix(2 * (i % 16) + 1);
            boolean same = true;
            for (int n = 0; n < size && same; n++) {
                same = told.then(state, n, 0) == twin.then(state, n, 0);
            }
            pairs += same ? 1 : 0;
        }
        return pairs;
    }

    private static void image() {
        promise = 38;
        ProvinceCards x = sent(1, 2);
        x.months(5);
        x.won(1, 77);
        x.sheet(0, 8, 2);
        x.write(0, 0, 3);
        x.feed(0x61, 1);
        int[] now = new int[8];
        int[] whose = new int[8];
        for (int i = 0; i < 8; i++) {
            now[i] = x.now(i);
            whose[i] = x.whose(i);
        }
        due("image()", x.image(), 1);
        x.months(9);
        x.mix(9);
        x.turn(3, 0);
        x.won(1, 1);
        x.send(0, 5);
        x.send(1, -1);
        x.treasury(0, 1);
        x.treasury(1, 2);
        x.province(6, 1);
        x.envoy(0);
        x.write(0, 0, 4);
        x.feed(0x62, 1);
        x.mix(0);
        due("undo()", x.undo(), 6);
        for (int i = 0; i < 8; i++) {
            due("now(" + i + ")", x.now(i), now[i]);
            due("whose(" + i + ")", x.whose(i), whose[i]);
        }
        due("of(3, 0)", x.of(3, 0), 3);
        due("of(1, 1)", x.of(1, 1), 77);
        due("of(6, 0)", x.of(6, 0), BEYOND);
        due("envoy(5)", x.envoy(5), 6);
        due("of(6, 1)", x.of(6, 1), 0);
        // Neither sheets, nor the tape, nor what status() tells are of it.
        due("write(0, 0, 0)", x.write(0, 0, 0), 4);
        due("count(1)", x.count(1), 2);
        due("status(0)", x.status(0), 2);
    }

    private static void undoAndTear() {
        promise = 39;
        ProvinceCards x = new ProvinceCards();
        due("undo()", x.undo(), NONE);
        x.image();
        x.envoy(0);
        due("undo()", x.undo(), 0);
        x.envoy(0);
        x.envoy(1);
        due("undo()", x.undo(), 0);
        x.envoy(0);
        x.image();
        x.turn(0, 4);
        due("undo()", x.undo(), 1);
        due("of(0, 0)", x.of(0, 0), 0);
        promise = 40;
        due("tear()", x.tear(), 1);
        due("tear()", x.tear(), 0);
        due("undo()", x.undo(), NONE);
        due("count(0)", x.count(0), 1);
        x.image();
        x.turn(0, 3);
        due("undo()", x.undo(), 1);
        due("of(0, 0)", x.of(0, 0), 0);
        due("status(3)", x.status(3), 2);
    }

    private static void count() {
        promise = 41;
        ProvinceCards x = six();
        x.won(0, 9999);
        x.won(5, 2);
        x.province(1, 0);
        x.province(2, 1);
        x.feed(0, 3);
        due("count(0)", x.count(0), 6);
        due("count(1)", x.count(1), 3);
        due("count(2)", x.count(2), 6);
        due("count(3)", x.count(3), 10001);
        x.envoy(0);
        x.envoy(0);
        x.won(7, 9);
        due("count(3)", x.count(3), 10010);
        for (int bad : new int[] {-1, 4, LEAST, MOST}) {
            due("count(" + bad + ")", x.count(bad), BEYOND);
        }
        // One who was taken back has won nothing any more.
        x = new ProvinceCards();
        x.image();
        x.envoy(0);
        x.won(0, 5);
        x.undo();
        due("count(3)", x.count(3), 0);
    }

    private static void status() {
        promise = 42;
        ProvinceCards x = new ProvinceCards();
        x.mix(0);
        x.mix(2);
        for (int i = 0; i < 10; i++) {
            x.envoy(1);
        }
        x.as(0, 2);
        x.as(0, 3);
        x.as(0, 5);
        x.undo();
        x.tricks();
        x.tricks();
        x.lays(0);
        x.sheet(0, 8, -1);
        int[] due = {2, 2, 3, 1, 2, 1, 1};
        for (int which = 0; which < 7; which++) {
            due("status(" + which + ")", x.status(which), due[which]);
        }
        due("status(-1)", x.status(-1), 12);
        due("status(7)", x.status(7), BEYOND);
        due("status(-2)", x.status(-2), BEYOND);
        due("status(LEAST)", x.status(LEAST), BEYOND);
        due("status(MOST)", x.status(MOST), BEYOND);
        due("status(0)", x.status(0), 6);
        due("status(-1)", x.status(-1), 16);
        x.image();
        x.mix(0);
        x.undo();
        due("status(-1)", x.status(-1), 17);
    }
}
