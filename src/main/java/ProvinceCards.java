import java.util.Arrays;

/** Two states hold their wars at cards, a month and a province at a time; ../shared/DOC.md says what each call does. */
public final class ProvinceCards {
    private static final int BEYOND = -1000000001;
    private static final int FULL = -1000000002;
    private static final int KIND = -1000000003;
    private static final int NONE = -1000000004;
    private static final int STATE = -1000000005;
    private static final int MISSING = -1000000006;
    private static final int SIZE = -1000000007;
    private static final int FINDINGS = 7;

    private static final int NOBODY = -1;
    private static final int LAST_MONTH = 9999;
    private static final int MOST_MONTHS_ON = 100;
    private static final int MOST_MONTHS_BEST = 40;
    private static final int MOST_MONTHS_REST = 30;
    private static final int MOST_MONTHS_GO = 60;
    private static final int MOST_WINS = 9999;
    private static final int MOST_TREASURE = 99999;
    private static final int MOST_MIX = 31;
    private static final int MOST_ENVOYS = 8;
    private static final int PROVINCES = 8;
    private static final int CARDS = 32;
    private static final int PLACES = 8;
    private static final int TRICKS = 4;
    private static final int KINDS = 6;
    private static final int SHEETS = 4;

    private final Table table = new Table();
    private final Table kept = new Table();
    private final Table ahead = new Table();
    private final Game game = new Game();
    private final Tape tape = new Tape();
    private final Sheet[] sheets = new Sheet[SHEETS];
    private final int[] found = new int[FINDINGS];
    private boolean keeps;

    public ProvinceCards() {
        for (int s = 0; s < SHEETS; s++) {
            sheets[s] = new Sheet();
        }
    }

    // ---- the table

    public int mix(int v) {
        if (!isMix(v)) {
            return finding(BEYOND);
        }
        int was = table.mixing;
        table.mixing = v;
        return was;
    }

    public int province(int province, int state) {
        if (!isProvince(province) || !isStateOrNobody(state)) {
            return finding(BEYOND);
        }
        int was = table.owner[province];
        table.owner[province] = state;
        return was;
    }

    public int whose(int province) {
        if (!isProvince(province)) {
            return finding(BEYOND);
        }
        return table.owner[province];
    }

    public int treasury(int state, int v) {
        if (!isState(state) || !isWithin(v, 0, MOST_TREASURE)) {
            return finding(BEYOND);
        }
        int was = table.purse[state];
        table.purse[state] = v;
        return was;
    }

    public int now(int what) {
        switch (what) {
            case 0:
                return table.month;
            case 1:
                return table.mixing;
            case 2:
                return table.trump();
            case 3:
                return table.stake();
            case 4:
                return table.sent[0];
            case 5:
                return table.sent[1];
            case 6:
                return table.purse[0];
            case 7:
                return table.purse[1];
            default:
                return finding(BEYOND);
        }
    }

    public int card(int place, int month) {
        if (!isWithin(place, 0, PLACES - 1) || !isWithin(month, 0, LAST_MONTH)) {
            return finding(BEYOND);
        }
        return Cards.dealt(table.mixing, place, month);
    }

    // ---- envoys

    public int envoy(int kind) {
        if (!isKind(kind)) {
            return finding(BEYOND);
        }
        if (table.envoys >= MOST_ENVOYS) {
            return finding(FULL);
        }
        return table.seat(kind);
    }

    public int of(int envoy, int what) {
        if (!isEnvoy(envoy)) {
            return finding(BEYOND);
        }
        switch (what) {
            case 0:
                return table.kinds[envoy];
            case 1:
                return table.wins[envoy];
            case 2:
                return table.senders(envoy);
            default:
                return finding(BEYOND);
        }
    }

    public int turn(int envoy, int kind) {
        if (!isEnvoy(envoy) || !isKind(kind)) {
            return finding(BEYOND);
        }
        int was = table.kinds[envoy];
        table.kinds[envoy] = kind;
        return was;
    }

    public int as(int envoy, int kind) {
        if (!isEnvoy(envoy) || !isKind(kind)) {
            return finding(BEYOND);
        }
        if (!Kinds.isUnder(table.kinds[envoy], kind)) {
            return finding(KIND);
        }
        return table.wins[envoy];
    }

    public int won(int envoy, int v) {
        if (!isEnvoy(envoy) || !isWithin(v, 0, MOST_WINS)) {
            return finding(BEYOND);
        }
        int was = table.wins[envoy];
        table.wins[envoy] = v;
        return was;
    }

    public int send(int state, int envoy) {
        if (!isState(state) || (envoy != NOBODY && !isEnvoy(envoy))) {
            return finding(BEYOND);
        }
        int was = table.sent[state];
        table.sent[state] = envoy;
        return was;
    }

    public int leads(int envoy, int state) {
        if (!isEnvoy(envoy) || !isState(state)) {
            return finding(BEYOND);
        }
        return Kinds.lead(table.kinds[envoy], table.hand(state), table.trump());
    }

    public int follows(int envoy, int state, int card) {
        if (!isEnvoy(envoy) || !isState(state) || !isWithin(card, 0, CARDS - 1)) {
            return finding(BEYOND);
        }
        int kind = table.kinds[envoy];
        int may = Kinds.mayPlay(kind, table.hand(state), card, table.month);
        return Kinds.follow(kind, may, card, table.trump());
    }

    // ---- months

    public int trick(int t, int what) {
        if (!isWithin(t, 0, TRICKS - 1) || !isWithin(what, 0, 3)) {
            return finding(BEYOND);
        }
        if (!table.bothSent()) {
            return finding(STATE);
        }
        game.play(table);
        switch (what) {
            case 0:
                return game.played0[t];
            case 1:
                return game.played1[t];
            case 2:
                return game.leader[t];
            default:
                return game.winner[t];
        }
    }

    public int tricks() {
        if (!table.bothSent()) {
            return finding(STATE);
        }
        game.play(table);
        return game.tricksOfFirst();
    }

    public int months(int n) {
        if (!isWithin(n, 1, MOST_MONTHS_GO)) {
            return finding(BEYOND);
        }
        if (table.month + n > LAST_MONTH) {
            return finding(STATE);
        }
        table.passMonths(n, game);
        return table.owned(NOBODY);
    }

    public int on(int province, int n) {
        if (!isProvince(province) || !isWithin(n, 0, MOST_MONTHS_ON)) {
            return finding(BEYOND);
        }
        lookAhead(n);
        return ahead.owner[province];
    }

    public int then(int state, int n, int what) {
        if (!isState(state) || !isWithin(n, 0, MOST_MONTHS_ON) || !isWithin(what, 0, 1)) {
            return finding(BEYOND);
        }
        lookAhead(n);
        return what == 0 ? ahead.ownedSet(state) : ahead.purse[state];
    }

    public int when(int province, int state) {
        if (!isProvince(province) || !isStateOrNobody(state)) {
            return finding(BEYOND);
        }
        ahead.become(table);
        for (int n = 0; n <= MOST_MONTHS_ON; n++) {
            if (ahead.owner[province] == state) {
                return n;
            }
            ahead.passMonths(1, game);
        }
        return finding(NONE);
    }

    public int all(int state) {
        if (!isState(state)) {
            return finding(BEYOND);
        }
        ahead.become(table);
        for (int n = 0; n <= MOST_MONTHS_ON; n++) {
            if (ahead.owned(state) == PROVINCES) {
                return n;
            }
            ahead.passMonths(1, game);
        }
        return finding(NONE);
    }

    // ---- what is best

    public int best(int state, int n) {
        if (!isState(state) || !isWithin(n, 1, MOST_MONTHS_BEST)) {
            return finding(BEYOND);
        }
        if (table.envoys == 0) {
            return finding(NONE);
        }
        int bestEnvoy = 0;
        int most = -1;
        for (int envoy = 0; envoy < table.envoys; envoy++) {
            ahead.become(table);
            ahead.sent[state] = envoy;
            ahead.passMonths(n, game);
            if (ahead.owned(state) > most) {
                most = ahead.owned(state);
                bestEnvoy = envoy;
            }
        }
        return bestEnvoy;
    }

    public int mixed(int state, int n) {
        if (!isState(state) || !isWithin(n, 1, MOST_MONTHS_BEST)) {
            return finding(BEYOND);
        }
        return bestMix(state, n);
    }

    public int kind(int envoy, int n) {
        if (!isEnvoy(envoy) || !isWithin(n, 1, MOST_MONTHS_BEST)) {
            return finding(BEYOND);
        }
        int bestKind = 0;
        int most = -1;
        for (int kind = 0; kind < KINDS; kind++) {
            ahead.become(table);
            ahead.kinds[envoy] = kind;
            ahead.passMonths(n, game);
            if (ahead.wins[envoy] > most) {
                most = ahead.wins[envoy];
                bestKind = kind;
            }
        }
        return bestKind;
    }

    public int rest(int state, int n) {
        if (!isState(state) || !isWithin(n, 1, MOST_MONTHS_REST)) {
            return finding(BEYOND);
        }
        int bestRest = 0;
        int most = -1;
        for (int idle = 0; idle <= MOST_MONTHS_REST; idle++) {
            lookAheadIdle(idle);
            ahead.passMonths(n, game);
            if (ahead.owned(state) > most) {
                most = ahead.owned(state);
                bestRest = idle;
            }
        }
        return bestRest;
    }

    public int peace(int n) {
        if (!isWithin(n, 1, MOST_MONTHS_BEST)) {
            return finding(BEYOND);
        }
        return bestMix(NOBODY, n);
    }

    public int champion(int n) {
        if (!isWithin(n, 0, MOST_MONTHS_ON)) {
            return finding(BEYOND);
        }
        if (table.envoys == 0) {
            return finding(NONE);
        }
        lookAhead(n);
        int first = 0;
        for (int envoy = 1; envoy < ahead.envoys; envoy++) {
            if (ahead.wins[envoy] > ahead.wins[first]) {
                first = envoy;
            }
        }
        return first;
    }

    // ---- the text

    public int feed(int bytes, int n) {
        if (!isWithin(n, 1, 4)) {
            return finding(BEYOND);
        }
        if (tape.length + n > Tape.MOST_BYTES) {
            return finding(FULL);
        }
        for (int i = n - 1; i >= 0; i--) {
            tape.put((bytes >> (8 * i)) & 255);
        }
        return tape.length;
    }

    public int wipe() {
        int had = tape.length;
        tape.length = 0;
        return had;
    }

    public int spa() {
        // Items come to a table of their own first, so that a fault leaves this one as it was.
        ahead.become(table);
        int items = tape.parse(ahead);
        if (items >= 0) {
            table.become(ahead);
        }
        tape.length = 0;
        return items;
    }

    // ---- sheets

    public int sheet(int s, int bits, int n) {
        if (!isSheet(s) || (bits != 0 && bits != 8 && bits != 16 && bits != 64)) {
            return finding(BEYOND);
        }
        if (n < 0) {
            return finding(SIZE);
        }
        if (n > Sheet.MOST_NUMBERS) {
            return finding(BEYOND);
        }
        sheets[s].shape(bits, n);
        return sheets[s].size;
    }

    public long write(int s, int i, long v) {
        int unfit = unfitSheet(s);
        if (unfit != 0) {
            return finding(unfit);
        }
        if (!isWithin(i, 0, sheets[s].size - 1)) {
            return finding(BEYOND);
        }
        long was = sheets[s].numbers[i];
        sheets[s].put(i, v);
        return was;
    }

    public int copy(int s, int from, int t, int to, int n) {
        if (!isSheet(s) || !isSheet(t)) {
            return finding(BEYOND);
        }
        if (sheets[s].isMissing() || sheets[t].isMissing()) {
            return finding(MISSING);
        }
        if (sheets[s].bits != sheets[t].bits) {
            return finding(KIND);
        }
        if (!sheets[s].has(from, n) || !sheets[t].has(to, n)) {
            return finding(BEYOND);
        }
        System.arraycopy(sheets[s].numbers, from, sheets[t].numbers, to, n);
        return n;
    }

    public int lays(int s) {
        int unfit = unfitSheet(s);
        if (unfit != 0) {
            return finding(unfit);
        }
        int came = 0;
        for (int i = 0; i < sheets[s].size && i < PROVINCES; i++) {
            long state = sheets[s].numbers[i];
            if (state >= NOBODY && state <= 1) {
                table.owner[i] = (int) state;
                came++;
            }
        }
        return came;
    }

    public int book(int s, int state) {
        int unfit = unfitSheet(s);
        if (unfit != 0) {
            return finding(unfit);
        }
        if (!isState(state)) {
            return finding(BEYOND);
        }
        ahead.become(table);
        for (int i = 0; i < sheets[s].size; i++) {
            sheets[s].put(i, ahead.ownedSet(state));
            ahead.passMonths(1, game);
        }
        return sheets[s].size;
    }

    public int read(int s, int state, int envoy) {
        int unfit = unfitSheet(s);
        if (unfit != 0) {
            return finding(unfit);
        }
        if (!isState(state) || !isEnvoy(envoy)) {
            return finding(BEYOND);
        }
        int pairs = 0;
        for (int kind = 0; kind < KINDS; kind++) {
            for (int v = 1; v <= MOST_MIX; v += 2) {
                ahead.become(table);
                ahead.kinds[envoy] = kind;
                ahead.mixing = v;
                pairs += comesAsTold(sheets[s], state) ? 1 : 0;
            }
        }
        return pairs;
    }

    // ---- images

    public int image() {
        kept.become(table);
        keeps = true;
        return 1;
    }

    public int undo() {
        if (!keeps) {
            return finding(NONE);
        }
        table.become(kept);
        return table.envoys;
    }

    public int tear() {
        int had = keeps ? 1 : 0;
        keeps = false;
        return had;
    }

    public int count(int what) {
        switch (what) {
            case 0:
                return table.envoys;
            case 1:
                return tape.length;
            case 2:
                return table.owned(NOBODY);
            case 3:
                return table.winsTogether();
            default:
                return finding(BEYOND);
        }
    }

    public int status(int which) {
        if (!isWithin(which, -1, FINDINGS - 1)) {
            return finding(BEYOND);
        }
        if (which >= 0) {
            return found[which];
        }
        int together = 0;
        for (int i = 0; i < FINDINGS; i++) {
            together += found[i];
        }
        return together;
    }

    // ---- what the calls share

    private int finding(int code) {
        int which = BEYOND - code;
        if (which >= 0 && which < FINDINGS) {
            found[which]++;
        }
        return code;
    }

    private void lookAhead(int n) {
        ahead.become(table);
        ahead.passMonths(n, game);
    }

    private void lookAheadIdle(int n) {
        ahead.become(table);
        ahead.sent[0] = NOBODY;
        ahead.sent[1] = NOBODY;
        ahead.passMonths(n, game);
        ahead.sent[0] = table.sent[0];
        ahead.sent[1] = table.sent[1];
    }

    private int bestMix(int stateOrNobody, int n) {
        int bestSoFar = 1;
        int most = -1;
        for (int v = 1; v <= MOST_MIX; v += 2) {
            ahead.become(table);
            ahead.mixing = v;
            ahead.passMonths(n, game);
            if (ahead.owned(stateOrNobody) > most) {
                most = ahead.owned(stateOrNobody);
                bestSoFar = v;
            }
        }
        return bestSoFar;
    }

    private boolean comesAsTold(Sheet sheet, int state) {
        for (int i = 0; i < sheet.size; i++) {
            if (sheet.numbers[i] != ahead.ownedSet(state)) {
                return false;
            }
            ahead.passMonths(1, game);
        }
        return true;
    }

    private int unfitSheet(int s) {
        if (!isSheet(s)) {
            return BEYOND;
        }
        return sheets[s].isMissing() ? MISSING : 0;
    }

    private boolean isEnvoy(int envoy) {
        return envoy >= 0 && envoy < table.envoys;
    }

    private static boolean isWithin(int v, int least, int most) {
        return v >= least && v <= most;
    }

    private static boolean isState(int state) {
        return state == 0 || state == 1;
    }

    private static boolean isStateOrNobody(int state) {
        return state >= NOBODY && state <= 1;
    }

    private static boolean isProvince(int province) {
        return province >= 0 && province < PROVINCES;
    }

    private static boolean isKind(int kind) {
        return kind >= 0 && kind < KINDS;
    }

    private static boolean isSheet(int s) {
        return s >= 0 && s < SHEETS;
    }

    private static boolean isMix(int v) {
        return v >= 1 && v <= MOST_MIX && v % 2 == 1;
    }

    /** All that section 1 of the document tells but THE TAPE; whatever is kept or looked at ahead is one of these. */
    private static final class Table {
        int month = 0;
        int mixing = 5;
        int envoys = 0;
        final int[] owner = new int[PROVINCES];
        final int[] purse = new int[2];
        final int[] sent = new int[2];
        final int[] kinds = new int[MOST_ENVOYS];
        final int[] wins = new int[MOST_ENVOYS];

        Table() {
            Arrays.fill(owner, NOBODY);
            Arrays.fill(purse, 50);
            Arrays.fill(sent, NOBODY);
        }

        void become(Table other) {
            month = other.month;
            mixing = other.mixing;
            envoys = other.envoys;
            System.arraycopy(other.owner, 0, owner, 0, PROVINCES);
            System.arraycopy(other.purse, 0, purse, 0, 2);
            System.arraycopy(other.sent, 0, sent, 0, 2);
            System.arraycopy(other.kinds, 0, kinds, 0, MOST_ENVOYS);
            System.arraycopy(other.wins, 0, wins, 0, MOST_ENVOYS);
        }

        int trump() {
            return month % 4;
        }

        int stake() {
            return month % PROVINCES;
        }

        int hand(int state) {
            return Cards.dealtHand(mixing, state, month);
        }

        boolean bothSent() {
            return sent[0] >= 0 && sent[1] >= 0;
        }

        int senders(int envoy) {
            return (sent[0] == envoy ? 1 : 0) + (sent[1] == envoy ? 2 : 0);
        }

        int owned(int stateOrNobody) {
            return Integer.bitCount(ownedSet(stateOrNobody));
        }

        int ownedSet(int stateOrNobody) {
            int set = 0;
            for (int i = 0; i < PROVINCES; i++) {
                if (owner[i] == stateOrNobody) {
                    set |= 1 << i;
                }
            }
            return set;
        }

        int winsTogether() {
            int together = 0;
            for (int i = 0; i < envoys; i++) {
                together += wins[i];
            }
            return together;
        }

        /** Whoever asks has seen to it that there is room. */
        int seat(int kind) {
            if (envoys >= MOST_ENVOYS) {
                return NOBODY;
            }
            kinds[envoys] = kind;
            wins[envoys] = 0;
            envoys++;
            return envoys - 1;
        }

        void passMonths(int n, Game game) {
            for (int i = 0; i < n; i++) {
                if (bothSent()) {
                    game.play(this);
                    reward(game.victor());
                    close(game.victor());
                } else {
                    close(onlySender());
                }
            }
        }

        private void close(int victor) {
            owner[stake()] = victor;
            for (int state = 0; state < 2; state++) {
                purse[state] = Math.min(MOST_TREASURE, purse[state] + owned(state));
            }
            month++;
        }

        private int onlySender() {
            if (sent[0] >= 0) {
                return 0;
            }
            return sent[1] >= 0 ? 1 : NOBODY;
        }

        private void reward(int victor) {
            if (victor != NOBODY) {
                int envoy = sent[victor];
                wins[envoy] = Math.min(MOST_WINS, wins[envoy] + 1);
            }
        }
    }

    /** Cards are told by numbers, several cards by a set of bits: a pack has each card once. */
    private static final class Cards {
        private static final int ONE_OF_EACH_SUIT = 0x01010101;
        private static final int RANKS = 8;
        private static final int HAND = 4;

        static int dealt(int mixing, int place, int month) {
            return (mixing * place + month) % CARDS;
        }

        static int dealtHand(int mixing, int state, int month) {
            int cards = 0;
            for (int i = 0; i < HAND; i++) {
                cards |= 1 << dealt(mixing, HAND * state + i, month);
            }
            return cards;
        }

        static int suit(int card) {
            return card / RANKS;
        }

        static int suitSet(int suit) {
            return 255 << (RANKS * suit);
        }

        static int beating(int cards, int led, int trump) {
            // Two shifts, as one by 32 would be none at all.
            int higher = (-1 << led) << 1;
            int set = suitSet(suit(led)) & higher;
            if (suit(led) != trump) {
                set |= suitSet(trump);
            }
            return cards & set;
        }

        static int lowest(int cards) {
            for (int rank = 0; rank < RANKS; rank++) {
                int same = cards & (ONE_OF_EACH_SUIT << rank);
                if (same != 0) {
                    return Integer.bitCount((same & -same) - 1);
                }
            }
            return NOBODY;
        }

        static int highest(int cards) {
            for (int rank = RANKS - 1; rank >= 0; rank--) {
                int same = cards & (ONE_OF_EACH_SUIT << rank);
                if (same != 0) {
                    return Integer.bitCount((same & -same) - 1);
                }
            }
            return NOBODY;
        }
    }

    /** How each KIND of envoy leads and follows. */
    private static final class Kinds {
        private static final int ENVOY = 0;
        private static final int MISER = 1;
        private static final int SCHOLAR = 2;
        private static final int BRIBED = 3;
        private static final int FOX = 4;
        private static final int MARSHAL = 5;
        private static final int[] UNDER = {-1, ENVOY, ENVOY, ENVOY, MISER, SCHOLAR};

        static String name(int kind) {
            switch (kind) {
                case ENVOY:
                    return "envoy";
                case MISER:
                    return "miser";
                case SCHOLAR:
                    return "scholar";
                case BRIBED:
                    return "bribed";
                case FOX:
                    return "fox";
                default:
                    return "marshal";
            }
        }

        static boolean isUnder(int kind, int above) {
            int at = kind;
            for (int level = 0; level < KINDS && isKind(at); level++) {
                if (at == above) {
                    return true;
                }
                at = UNDER[at];
            }
            return false;
        }

        static int lead(int kind, int cards, int trump) {
            int trumps = cards & Cards.suitSet(trump);
            switch (kind) {
                case MISER:
                case BRIBED:
                    return Cards.lowest(cards);
                case SCHOLAR:
                case MARSHAL:
                    return Cards.highest(trumps != 0 ? trumps : cards);
                case FOX:
                    return Integer.bitCount(cards) <= 2 ? Cards.highest(cards) : Cards.lowest(cards);
                default:
                    return Cards.highest(cards);
            }
        }

        static int mayPlay(int kind, int cards, int led, int month) {
            int ofSuit = cards & Cards.suitSet(Cards.suit(led));
            boolean revokes = month % 3 == 0 && isUnder(kind, SCHOLAR);
            return revokes || ofSuit == 0 ? cards : ofSuit;
        }

        static int follow(int kind, int may, int led, int trump) {
            int beating = Cards.beating(may, led, trump);
            int lowBeating = beating != 0 ? beating : may;
            switch (kind) {
                case MISER:
                    return Cards.lowest(may);
                case BRIBED:
                    return beating == may ? Cards.lowest(may) : Cards.highest(may & ~beating);
                case FOX:
                    return Cards.lowest(Cards.suit(led) == trump ? lowBeating : may);
                case MARSHAL:
                    return beating != 0 ? Cards.highest(beating) : Cards.lowest(may);
                default:
                    return Cards.lowest(lowBeating);
            }
        }
    }

    /** The four tricks of one month; each object has one, used again for every month. */
    private static final class Game {
        final int[] hands = new int[2];
        final int[] played0 = new int[TRICKS];
        final int[] played1 = new int[TRICKS];
        final int[] leader = new int[TRICKS];
        final int[] winner = new int[TRICKS];

        /** Whoever asks has seen to it that each state has somebody sent. */
        void play(Table table) {
            hands[0] = table.hand(0);
            hands[1] = table.hand(1);
            int first = table.month % 2;
            for (int t = 0; t < TRICKS; t++) {
                playTrick(table, t, first);
                first = winner[t];
            }
        }

        private void playTrick(Table table, int t, int first) {
            int second = 1 - first;
            int trump = table.trump();
            int kind = table.kinds[table.sent[second]];
            int led = Kinds.lead(table.kinds[table.sent[first]], hands[first], trump);
            int may = Kinds.mayPlay(kind, hands[second], led, table.month);
            int followed = Kinds.follow(kind, may, led, trump);
            hands[first] &= ~(1 << led);
            hands[second] &= ~(1 << followed);
            played0[t] = first == 0 ? led : followed;
            played1[t] = first == 0 ? followed : led;
            leader[t] = first;
            winner[t] = Cards.beating(1 << followed, led, trump) != 0 ? second : first;
        }

        int tricksOfFirst() {
            int tricks = 0;
            for (int t = 0; t < TRICKS; t++) {
                tricks += winner[t] == 0 ? 1 : 0;
            }
            return tricks;
        }

        int victor() {
            int tricks = tricksOfFirst();
            if (tricks == 2) {
                return NOBODY;
            }
            return tricks > 2 ? 0 : 1;
        }
    }

    /** THE TAPE, and the reading of THE TEXT from it, one token ahead. */
    private static final class Tape {
        static final int MOST_BYTES = 120;
        private static final int END = 0;
        private static final int WORD = 1;
        private static final int NUMBER = 2;
        private static final int SIGN = 3;
        private static final int STRANGE = 4;
        private static final int TOO_MUCH = 1000;

        final int[] bytes = new int[MOST_BYTES];
        int length = 0;
        private int token;
        private int start;
        private int place;
        private int value;

        void put(int b) {
            if (length < MOST_BYTES) {
                bytes[length] = b;
                length++;
            }
        }

        /** How many items came to the table, or -1 less the place of a fault. */
        int parse(Table table) {
            place = 0;
            step();
            // No item is shorter than three bytes, so the bound is never met.
            for (int items = 1; items <= MOST_BYTES; items++) {
                if (!takesItem(table)) {
                    return -1 - start;
                }
                if (token == END) {
                    return items;
                }
                if (token != SIGN) {
                    return -1 - start;
                }
                step();
            }
            return -1 - start;
        }

        private boolean takesItem(Table table) {
            for (int kind = 0; kind < KINDS; kind++) {
                if (isWord(Kinds.name(kind))) {
                    return takesEnvoy(table, kind);
                }
            }
            if (isWord("mix")) {
                return takesMix(table);
            }
            return isWord("province") && takesProvince(table);
        }

        private boolean takesEnvoy(Table table, int kind) {
            int envoy = table.seat(kind);
            if (envoy == NOBODY) {
                return false;
            }
            step();
            if (!isWord("for")) {
                return true;
            }
            step();
            if (token != NUMBER || !isState(value)) {
                return false;
            }
            table.sent[value] = envoy;
            step();
            return true;
        }

        private boolean takesMix(Table table) {
            step();
            if (token != NUMBER || !isMix(value)) {
                return false;
            }
            table.mixing = value;
            step();
            return true;
        }

        private boolean takesProvince(Table table) {
            step();
            if (token != NUMBER || !isProvince(value)) {
                return false;
            }
            int province = value;
            step();
            boolean free = isWord("free");
            if (!free && (token != NUMBER || !isState(value))) {
                return false;
            }
            table.owner[province] = free ? NOBODY : value;
            step();
            return true;
        }

        private void step() {
            while (place < length && bytes[place] == ' ') {
                place++;
            }
            start = place;
            if (place >= length) {
                token = END;
            } else if (isLetter(bytes[place])) {
                stepWord();
            } else if (isDigit(bytes[place])) {
                stepNumber();
            } else {
                token = bytes[place] == ';' ? SIGN : STRANGE;
                place++;
            }
        }

        private void stepWord() {
            token = WORD;
            while (place < length && isLetter(bytes[place])) {
                place++;
            }
        }

        private void stepNumber() {
            token = NUMBER;
            value = 0;
            while (place < length && isDigit(bytes[place])) {
                value = Math.min(TOO_MUCH, 10 * value + bytes[place] - '0');
                place++;
            }
        }

        private boolean isWord(String name) {
            if (token != WORD || place - start != name.length()) {
                return false;
            }
            for (int i = 0; i < name.length(); i++) {
                if (bytes[start + i] != name.charAt(i)) {
                    return false;
                }
            }
            return true;
        }

        private static boolean isLetter(int b) {
            return b >= 'a' && b <= 'z';
        }

        private static boolean isDigit(int b) {
            return b >= '0' && b <= '9';
        }
    }

    /** A row of signed numbers; one of 0 bits is MISSING. */
    private static final class Sheet {
        static final int MOST_NUMBERS = 40;

        final long[] numbers = new long[MOST_NUMBERS];
        int bits = 0;
        int size = 0;

        boolean isMissing() {
            return bits == 0;
        }

        void shape(int newBits, int n) {
            bits = newBits;
            size = newBits == 0 ? 0 : n;
            Arrays.fill(numbers, 0L);
        }

        void put(int i, long v) {
            if (i < 0 || i >= size) {
                return;
            }
            numbers[i] = bits == 8 ? (byte) v : bits == 16 ? (short) v : v;
        }

        boolean has(int from, int n) {
            return from >= 0 && n >= 0 && from <= size && n <= size - from;
        }
    }
}
