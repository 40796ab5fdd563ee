import java.util.function.Supplier;

/** Each sentence of the document's Terms that names an edge has a test of its own here, under its words. */
public final class TermsEdgesTest {
    private static final int BEYOND = Edge.BEYOND;

    public static void main(String[] args) {
        findings();
        table();
        envoys();
        deal();
        cards();
        months();
        texts();
        faults();
        onAndSheets();
        Edge.end();
    }

    private static void due(String call, long got, long want) {
        Edge.due(call, got, want);
    }

    private static void sentence(String where, Runnable test) {
        Edge.sentence("Terms, " + where, test);
    }

    private static void findings() {
        sentence("FINDINGS are answers below -1000000000", TermsEdgesTest::eachFindingIsItsNumber);
        sentence("(in longs, too)", TermsEdgesTest::findingsInLongs);
        sentence("Each act tells its findings in the order in which they are asked", TermsEdgesTest::findingsInOrder);
        sentence("one that answers a finding changes nothing but status()", TermsEdgesTest::refusedCallsChangeNothing);
        sentence("Quotients are cut", TermsEdgesTest::quotientsAreCut);
        sentence("Sets are told by bits", TermsEdgesTest::setsAreBits);
    }

    private static void table() {
        sentence("1: MONTH: 0 at first", () -> due("now(0)", Edge.fresh().now(0), 0));
        sentence("1: MONTH: (9999 at most)", TermsEdgesTest::monthIs9999AtMost);
        sentence("1: CARDS 0 to 31", TermsEdgesTest::cards0To31);
        sentence("1: SUIT (by 8), RANK (the rest by 8)", TermsEdgesTest::ranksBeginAgain);
        sentence("1: MIX (an odd number 1 to 31)", TermsEdgesTest::mixIsOdd);
        sentence("1: MIX: 5 at first", () -> due("now(1)", Edge.fresh().now(1), 5));
        sentence("1: PROVINCES 0 to 7", TermsEdgesTest::provinces0To7);
        sentence("1: each of a STATE 0 or 1, or nobody's (-1)", TermsEdgesTest::statesAreTwoOrNobody);
        sentence("1: nobody's at first", () -> due("owned", Edge.owned(Edge.fresh(), -1), 8));
        sentence("1: TREASURY of each STATE (0 to 99999)", TermsEdgesTest::treasury0To99999);
        sentence("1: TREASURY: 50 at first", TermsEdgesTest::treasuryIs50AtFirst);
    }

    private static void envoys() {
        sentence("1: ENVOYS 0, 1, .. (at most 8)", TermsEdgesTest::envoysAreEightAtMost);
        sentence("1: KINDS: 0 ENVOY .. 5 MARSHAL under SCHOLAR", TermsEdgesTest::kindsAreUnderKinds);
        sentence("1: WON: 0 at first", TermsEdgesTest::wonIs0AtFirst);
        sentence("1: WON: held to 9999", TermsEdgesTest::wonIsHeld);
        sentence("1: SENT (-1: none, at first)", TermsEdgesTest::nobodyIsSentAtFirst);
        sentence("1: both may have the same one SENT", TermsEdgesTest::bothSendTheSame);
    }

    private static void deal() {
        sentence("1: the rest of (MIX times i, and m) by 32", TermsEdgesTest::dealWrapsAt32);
        sentence("1: STATE 0 has those at places 0 to 3, STATE 1 those at 4 to 7", TermsEdgesTest::handsPartAtPlace4);
        sentence("1: TRUMP: the SUIT that is the rest of m by 4", TermsEdgesTest::trumpWrapsAt4);
        sentence("1: BEATS: of its SUIT and of higher RANK", TermsEdgesTest::higherOfSuitBeats);
        sentence("1: BEATS: or TRUMP, if that one isn't", TermsEdgesTest::trumpBeatsOthers);
    }

    private static void cards() {
        sentence("1: LEADS: SCHOLAR: of TRUMPS, if he has any, else as ENVOY", TermsEdgesTest::scholarWithoutTrumps);
        sentence("1: LEADS: FOX: as ENVOY does, if he has 2 cards or fewer", TermsEdgesTest::foxWithTwoCards);
        sentence("1: FOLLOWS: ENVOY: if none does, of all the one of lowest RANK", TermsEdgesTest::envoyCannotBeat);
        sentence("1: FOLLOWS: BRIBED: if all do, the one of lowest RANK", TermsEdgesTest::bribedMustBeat);
        sentence("1: FOLLOWS: FOX: as ENVOY does, if the one led is TRUMP", TermsEdgesTest::foxAtTrump);
        sentence("1: FOLLOWS: MARSHAL: if none does, of all the one of lowest RANK", TermsEdgesTest::marshalCannotBeat);
        sentence("1: (Of several of a RANK the card of the least number.)", TermsEdgesTest::ranksDifferInAHand);
        sentence("1: MAY: cards of the SUIT that was led, if he has any; else all", TermsEdgesTest::mayPlay);
        sentence("1: A SCHOLAR (or one of a KIND under it) MAY play all in MONTHS whose rest by 3 is 0", TermsEdgesTest::scholarRevokes);
    }

    private static void months() {
        sentence("1: STATE 0 leads first in even MONTHS, STATE 1 in odd ones", TermsEdgesTest::whoLeadsFirst);
        sentence("1: then who won the latest TRICK leads", TermsEdgesTest::winnersLead);
        sentence("1: who led wins it, if the other card doesn't BEAT his", TermsEdgesTest::leadersWinUnbeaten);
        sentence("1: THE PROVINCE that is the rest of MONTH by 8", TermsEdgesTest::provinceWrapsAt8);
        sentence("1: is of the STATE that won 3 or 4", TermsEdgesTest::threeOrFourWin);
        sentence("1: (WON of its ENVOY is 1 more)", TermsEdgesTest::winnersHaveWon);
        sentence("1: or nobody's with 2 and 2", TermsEdgesTest::levelIsNobodys);
        sentence("1: If one of both has nobody SENT: it is of the other one, if that has", TermsEdgesTest::oneAloneHasIt);
        sentence("1: (no WON)", TermsEdgesTest::oneAloneHasNotWon);
        sentence("1: of nobody, if none has", TermsEdgesTest::nobodySentNobodys);
        sentence("1: Then each STATE gets as much into its TREASURY as it has PROVINCES", TermsEdgesTest::pursesFill);
        sentence("1: (99999 at most)", TermsEdgesTest::pursesAreHeld);
        sentence("1: MONTH is 1 more", () -> due("now(0)", Edge.pass(Edge.fresh(), 1).now(0), 1));
    }

    private static void texts() {
        sentence("1: THE TAPE (bytes, at most 120)", TermsEdgesTest::tapeHas120);
        sentence("1: TOKENS, each as long as can be", TermsEdgesTest::tokensAreLong);
        sentence("1: WORDS (letters a to z)", TermsEdgesTest::lettersAToZ);
        sentence("1: NUMBERS (digits, 999 at most)", TermsEdgesTest::numbersTo999);
        sentence("1: blanks may stand between", TermsEdgesTest::blanksBetween);
        sentence("1: TEXT: ITEM { ; ITEM }", TermsEdgesTest::oneItemOrMore);
        sentence("1: the name of a KIND (envoy miser scholar bribed fox marshal): one more", TermsEdgesTest::eachNameIsAKind);
        sentence("1: perhaps for and a NUMBER (a STATE: he is SENT by it)", TermsEdgesTest::forAState);
        sentence("1: mix and a NUMBER (odd, 1 to 31)", TermsEdgesTest::mixInText);
        sentence("1: province, a NUMBER (0 to 7)", TermsEdgesTest::provinceInText);
        sentence("1: a NUMBER (a STATE) or free (nobody's)", TermsEdgesTest::stateOrFreeInText);
    }

    private static void faults() {
        sentence("1: FAULT: the place (from 0) of the first byte", TermsEdgesTest::faultAtFirstByte);
        sentence("1: FAULT: of the first TOKEN that can't stand there", TermsEdgesTest::firstFaultIsTold);
        sentence("1: FAULT: a NUMBER that may not be", TermsEdgesTest::faultOfNumber);
        sentence("1: FAULT: another WORD", TermsEdgesTest::faultOfWord);
        sentence("1: FAULT: a byte that begins no TOKEN", TermsEdgesTest::faultOfByte);
        sentence("1: FAULT: the name of a KIND for a 9th: its own", TermsEdgesTest::faultOfNinth);
        sentence("1: FAULT: how many bytes there are if it ends too early", TermsEdgesTest::faultAtEnd);
    }

    private static void onAndSheets() {
        sentence("2: ON: n MONTHS go on with all as it is", TermsEdgesTest::onIsWhatComes);
        sentence("2: ON: nothing changes", TermsEdgesTest::askingChangesNothing);
        sentence("3: SHEETS 0 to 3", TermsEdgesTest::sheets0To3);
        sentence("3: rows of at most 40 numbers", TermsEdgesTest::sheetsHave40);
        sentence("3: of 8, 16 or 64 bits", TermsEdgesTest::sheetsOfBits);
        sentence("3: or MISSING (at first)", TermsEdgesTest::sheetsAreMissingAtFirst);
    }

    // ---- findings

    private static void eachFindingIsItsNumber() {
        due("BEYOND: mix(0)", Edge.fresh().mix(0), -1000000001);
        due("FULL: envoy(0)", Edge.eight().envoy(0), -1000000002);
        due("KIND: as(0, 5)", Edge.six().as(0, 5), -1000000003);
        due("NONE: best(0, 1)", Edge.fresh().best(0, 1), -1000000004);
        due("STATE: tricks()", Edge.fresh().tricks(), -1000000005);
        due("MISSING: lays(0)", Edge.fresh().lays(0), -1000000006);
        due("SIZE: sheet(0, 8, -1)", Edge.fresh().sheet(0, 8, -1), -1000000007);
    }

    private static void findingsInLongs() {
        due("write(4, 0, 0)", Edge.fresh().write(4, 0, 0L), -1000000001L);
        due("write(0, 0, 0)", Edge.fresh().write(0, 0, 0L), -1000000006L);
        due("write(0, 3, 0)", Edge.rich().write(0, 3, 0L), -1000000001L);
    }

    /** Each of these calls has two findings or more to tell. */
    private static void findingsInOrder() {
        due("envoy(6), full", Edge.eight().envoy(6), BEYOND);
        due("as(0, 6)", Edge.six().as(0, 6), BEYOND);
        due("as(6, 5)", Edge.six().as(6, 5), BEYOND);
        due("trick(4, 0), nobody sent", Edge.six().trick(4, 0), BEYOND);
        due("trick(0, 4), nobody sent", Edge.six().trick(0, 4), BEYOND);
        due("months(61), late", Edge.pass(Edge.fresh(), 9999).months(61), BEYOND);
        due("best(2, 1), none there", Edge.fresh().best(2, 1), BEYOND);
        due("best(0, 41), none there", Edge.fresh().best(0, 41), BEYOND);
        due("champion(101), none there", Edge.fresh().champion(101), BEYOND);
        due("feed(0, 5), full", fullTape().feed(0, 5), BEYOND);
        due("sheet(4, 8, -1)", Edge.rich().sheet(4, 8, -1), BEYOND);
        due("sheet(0, 7, -1)", Edge.rich().sheet(0, 7, -1), BEYOND);
        due("write(3, -1, 0)", Edge.rich().write(3, -1, 0), Edge.MISSING);
        due("copy(3, 0, 4, 0, -1)", Edge.rich().copy(3, 0, 4, 0, -1), BEYOND);
        due("copy(0, 0, 3, 0, -1)", Edge.rich().copy(0, 0, 3, 0, -1), Edge.MISSING);
        due("copy(0, 0, 1, 0, -1)", Edge.rich().copy(0, 0, 1, 0, -1), Edge.KIND);
        due("book(3, 2)", Edge.rich().book(3, 2), Edge.MISSING);
        due("read(3, 2, 9)", Edge.rich().read(3, 2, 9), Edge.MISSING);
    }

    private static void refusedCallsChangeNothing() {
        refused("mix(32)", BEYOND, x -> x.mix(32));
        refused("province(0, 2)", BEYOND, x -> x.province(0, 2));
        refused("treasury(0, 100000)", BEYOND, x -> x.treasury(0, 100000));
        refused("treasury(2, 1)", BEYOND, x -> x.treasury(2, 1));
        refused("envoy(6)", BEYOND, x -> x.envoy(6));
        refused("turn(0, 6)", BEYOND, x -> x.turn(0, 6));
        refused("won(0, 10000)", BEYOND, x -> x.won(0, 10000));
        refused("send(0, 6)", BEYOND, x -> x.send(0, 6));
        refused("months(61)", BEYOND, x -> x.months(61));
        refused("feed(0, 5)", BEYOND, x -> x.feed(0, 5));
        refused("sheet(0, 8, 41)", BEYOND, x -> x.sheet(0, 8, 41));
        refused("sheet(0, 0, -1)", Edge.SIZE, x -> x.sheet(0, 0, -1));
        refused("write(0, 3, 9)", BEYOND, x -> x.write(0, 3, 9));
        refused("copy(0, 0, 0, 1, 3)", BEYOND, x -> x.copy(0, 0, 0, 1, 3));
        refused("lays(3)", Edge.MISSING, x -> x.lays(3));
        refused("book(0, 2)", BEYOND, x -> x.book(0, 2));
        refused("read(0, 0, 6)", BEYOND, x -> x.read(0, 0, 6));
        Edge.refused(Edge::eight, "envoy(0)", Edge.FULL, x -> x.envoy(0));
        Edge.refused(TermsEdgesTest::fullTape, "feed(0, 1)", Edge.FULL, x -> x.feed(0, 1));
        Edge.refused(Edge::six, "undo()", Edge.NONE, x -> x.undo());
        Edge.refused(TermsEdgesTest::latest, "months(1)", Edge.STATE, x -> x.months(1));
    }

    private static void refused(String call, int finding, Edge.Act act) {
        Edge.refused(Edge::rich, call, finding, act);
    }

    private static ProvinceCards latest() {
        ProvinceCards x = Edge.pass(Edge.six(), 9999);
        x.send(0, 1);
        return x;
    }

    private static ProvinceCards fullTape() {
        ProvinceCards x = Edge.fresh();
        Edge.feedText(x, "mix 7;".repeat(20));
        return x;
    }

    /** Month 0, mix 5: hands 0 5 10 15 and 20 25 30 3; suit 0 is trump. The last card of a suit and the first of the next. */
    private static void quotientsAreCut() {
        ProvinceCards x = Edge.six();
        due("follows(0, 0, 7)", x.follows(0, 0, 7), 0);
        due("follows(0, 0, 8)", x.follows(0, 0, 8), 10);
        due("follows(0, 0, 15)", x.follows(0, 0, 15), 10);
        due("follows(0, 0, 16)", x.follows(0, 0, 16), 0);
        due("follows(0, 1, 23)", x.follows(0, 1, 23), 20);
        due("follows(0, 1, 24)", x.follows(0, 1, 24), 25);
    }

    private static void setsAreBits() {
        ProvinceCards x = Edge.six();
        due("then(0, 0, 0)", x.then(0, 0, 0), 0);
        x.province(0, 0);
        due("then(0, 0, 0)", x.then(0, 0, 0), 1);
        x.province(7, 0);
        due("then(0, 0, 0)", x.then(0, 0, 0), 129);
        Edge.provincesAll(x, 0);
        due("then(0, 0, 0)", x.then(0, 0, 0), 255);
        due("of(3, 2)", x.of(3, 2), 0);
        x.send(1, 3);
        due("of(3, 2)", x.of(3, 2), 2);
        x.send(0, 3);
        due("of(3, 2)", x.of(3, 2), 3);
    }

    // ---- the table

    private static void monthIs9999AtMost() {
        ProvinceCards x = Edge.pass(Edge.fresh(), 9998);
        due("months(1)", x.months(1), 8);
        due("now(0)", x.now(0), 9999);
        due("months(1)", x.months(1), Edge.STATE);
        due("now(0)", x.now(0), 9999);
    }

    private static void cards0To31() {
        due("follows(0, 0, 0)", Edge.six().follows(0, 0, 0), 5);
        due("follows(0, 1, 31)", Edge.six().follows(0, 1, 31), 25);
        refused("follows(0, 0, -1)", BEYOND, x -> x.follows(0, 0, -1));
        refused("follows(0, 0, 32)", BEYOND, x -> x.follows(0, 0, 32));
    }

    /** Month 7, mix 1: 7 has the highest rank of 7 8 9 10, and 8 the lowest. */
    private static void ranksBeginAgain() {
        ProvinceCards x = Edge.pass(Edge.six(), 7);
        x.mix(1);
        due("leads(0, 0)", x.leads(0, 0), 7);
        due("leads(1, 0)", x.leads(1, 0), 8);
    }

    private static void mixIsOdd() {
        for (int v = -3; v <= 35; v++) {
            boolean fine = v >= 1 && v <= 31 && v % 2 == 1;
            ProvinceCards x = Edge.fresh();
            due("mix(" + v + ")", x.mix(v), fine ? 5 : BEYOND);
            due("now(1) behind mix(" + v + ")", x.now(1), fine ? v : 5);
        }
    }

    private static void provinces0To7() {
        for (int p = -2; p <= 9; p++) {
            boolean fine = p >= 0 && p <= 7;
            due("whose(" + p + ")", Edge.fresh().whose(p), fine ? -1 : BEYOND);
            due("province(" + p + ", 1)", Edge.fresh().province(p, 1), fine ? -1 : BEYOND);
        }
    }

    private static void statesAreTwoOrNobody() {
        for (int state = -3; state <= 3; state++) {
            boolean fine = state >= -1 && state <= 1;
            ProvinceCards x = Edge.fresh();
            x.province(2, 1);
            due("province(2, " + state + ")", x.province(2, state), fine ? 1 : BEYOND);
            due("whose(2)", x.whose(2), fine ? state : 1);
        }
    }

    private static void treasury0To99999() {
        ProvinceCards x = Edge.fresh();
        due("treasury(0, 0)", x.treasury(0, 0), 50);
        due("treasury(0, 99999)", x.treasury(0, 99999), 0);
        due("treasury(0, 100000)", x.treasury(0, 100000), BEYOND);
        due("treasury(0, -1)", x.treasury(0, -1), BEYOND);
        due("now(6)", x.now(6), 99999);
    }

    private static void treasuryIs50AtFirst() {
        due("now(6)", Edge.fresh().now(6), 50);
        due("now(7)", Edge.fresh().now(7), 50);
    }

    // ---- envoys

    private static void envoysAreEightAtMost() {
        ProvinceCards x = Edge.fresh();
        for (int i = 0; i < 8; i++) {
            due("envoy(0)", x.envoy(0), i);
        }
        due("envoy(0)", x.envoy(0), Edge.FULL);
        due("count(0)", x.count(0), 8);
        due("of(7, 0)", x.of(7, 0), 0);
        due("of(8, 0)", x.of(8, 0), BEYOND);
    }

    private static void kindsAreUnderKinds() {
        String[] are = {"100000", "110000", "101000", "100100", "110010", "101001"};
        for (int envoy = 0; envoy < 6; envoy++) {
            for (int kind = 0; kind < 6; kind++) {
                due("as(" + envoy + ", " + kind + ")", Edge.six().as(envoy, kind), are[envoy].charAt(kind) == '1' ? 0 : Edge.KIND);
            }
        }
    }

    private static void wonIs0AtFirst() {
        ProvinceCards x = Edge.fresh();
        x.image();
        x.envoy(2);
        x.won(0, 30);
        x.undo();
        x.envoy(2);
        due("of(0, 1)", x.of(0, 1), 0);
        due("spa()", Edge.spaOf(x, "fox"), 1);
        due("of(1, 1)", x.of(1, 1), 0);
    }

    /** State 0 wins month 0 with 3 tricks, and month 1 too. */
    private static void wonIsHeld() {
        ProvinceCards x = Edge.sent(0, 2);
        x.won(0, 9998);
        x.months(1);
        due("of(0, 1)", x.of(0, 1), 9999);
        due("tricks()", x.tricks(), 3);
        x.months(1);
        due("of(0, 1)", x.of(0, 1), 9999);
        due("whose(1)", x.whose(1), 0);
        due("now(0)", x.now(0), 2);
    }

    private static void nobodyIsSentAtFirst() {
        due("now(4)", Edge.six().now(4), -1);
        due("now(5)", Edge.six().now(5), -1);
        due("send(0, 1)", Edge.six().send(0, 1), -1);
        due("send(1, 1)", Edge.six().send(1, 1), -1);
    }

    /** He wins month 0 for state 0, and month 3 for state 1: WON is his, whichever it was. */
    private static void bothSendTheSame() {
        ProvinceCards x = Edge.sent(0, 0);
        due("now(4)", x.now(4), 0);
        due("now(5)", x.now(5), 0);
        due("tricks()", x.tricks(), 3);
        x.months(1);
        due("of(0, 1)", x.of(0, 1), 1);
        x = Edge.sentAt(0, 0, 3);
        due("tricks()", x.tricks(), 0);
        x.months(1);
        due("of(0, 1)", x.of(0, 1), 1);
    }

    // ---- the deal

    private static void dealWrapsAt32() {
        ProvinceCards x = Edge.fresh();
        due("card(6, 1)", x.card(6, 1), 31);
        due("card(6, 2)", x.card(6, 2), 0);
        due("card(0, 31)", x.card(0, 31), 31);
        due("card(0, 32)", x.card(0, 32), 0);
        x.mix(31);
        due("card(1, 1)", x.card(1, 1), 0);
        due("card(7, 9999)", x.card(7, 9999), 8);
    }

    /** Month 0, mix 1: hands 0 1 2 3 and 4 5 6 7. */
    private static void handsPartAtPlace4() {
        ProvinceCards x = Edge.six();
        x.mix(1);
        due("leads(1, 0)", x.leads(1, 0), 0);
        due("leads(0, 0)", x.leads(0, 0), 3);
        due("leads(1, 1)", x.leads(1, 1), 4);
        due("leads(0, 1)", x.leads(0, 1), 7);
    }

    private static void trumpWrapsAt4() {
        ProvinceCards x = Edge.fresh();
        int[] trumps = {0, 1, 2, 3, 0, 1};
        for (int month = 0; month < 6; month++) {
            due("now(2) in month " + month, x.now(2), trumps[month]);
            x.months(1);
        }
        due("now(2)", Edge.pass(Edge.fresh(), 9999).now(2), 3);
    }

    /** Month 1, mix 5: state 0 has 1 6 11 16. A card that he has himself isn't beaten by it; one rank above is. */
    private static void higherOfSuitBeats() {
        ProvinceCards x = Edge.pass(Edge.six(), 1);
        due("follows(0, 0, 5)", x.follows(0, 0, 5), 6);
        due("follows(0, 0, 6)", x.follows(0, 0, 6), 1);
        due("follows(5, 0, 6)", x.follows(5, 0, 6), 1);
        due("follows(3, 0, 6)", x.follows(3, 0, 6), 6);
        due("follows(3, 0, 5)", x.follows(3, 0, 5), 1);
        due("follows(0, 0, 0)", x.follows(0, 0, 0), 1);
        due("follows(5, 0, 0)", x.follows(5, 0, 0), 6);
    }

    /** Month 1, mix 5: of 1 6 11 16 only 11 is trump. Month 10, mix 1: 16 and 17 of 14 15 16 17 are trumps. */
    private static void trumpBeatsOthers() {
        ProvinceCards x = Edge.pass(Edge.six(), 1);
        due("follows(0, 0, 31)", x.follows(0, 0, 31), 11);
        due("follows(5, 0, 24)", x.follows(5, 0, 24), 11);
        due("follows(3, 0, 24)", x.follows(3, 0, 24), 6);
        x.months(9);
        x.mix(1);
        due("follows(3, 1, 17)", x.follows(3, 1, 17), 17);
        due("follows(0, 1, 16)", x.follows(0, 1, 16), 17);
        due("follows(0, 1, 7)", x.follows(0, 1, 7), 16);
    }

    // ---- cards led and followed

    /** Month 1, mix 5: of 1 6 11 16 one is trump, of 21 26 31 4 none is. */
    private static void scholarWithoutTrumps() {
        ProvinceCards x = Edge.pass(Edge.six(), 1);
        for (int envoy : new int[] {2, 5}) {
            due("leads(" + envoy + ", 0)", x.leads(envoy, 0), 11);
            due("leads(" + envoy + ", 1)", x.leads(envoy, 1), 31);
        }
    }

    /** Month 0: state 1 leads 25 as the lowest of 20 25 30, then 30 as the highest of 20 30; at last the one that is left. */
    private static void foxWithTwoCards() {
        ProvinceCards x = Edge.sent(4, 4);
        due("trick(1, 2)", x.trick(1, 2), 1);
        due("trick(1, 1)", x.trick(1, 1), 25);
        due("trick(2, 2)", x.trick(2, 2), 1);
        due("trick(2, 1)", x.trick(2, 1), 30);
        due("trick(3, 2)", x.trick(3, 2), 0);
        due("trick(3, 0)", x.trick(3, 0), 15);
        due("leads(4, 1)", x.leads(4, 1), 25);
    }

    private static void envoyCannotBeat() {
        ProvinceCards x = Edge.pass(Edge.six(), 1);
        due("follows(0, 0, 7)", x.follows(0, 0, 7), 1);
        due("follows(0, 1, 23)", x.follows(0, 1, 23), 21);
        due("follows(0, 1, 15)", x.follows(0, 1, 15), 26);
    }

    private static void bribedMustBeat() {
        ProvinceCards x = Edge.pass(Edge.six(), 1);
        due("follows(3, 0, 0)", x.follows(3, 0, 0), 1);
        due("follows(3, 0, 1)", x.follows(3, 0, 1), 1);
        due("follows(3, 0, 7)", x.follows(3, 0, 7), 6);
    }

    /** Month 10, mix 1: hands 10 to 13 and 14 to 17; suit 2 is trump. */
    private static void foxAtTrump() {
        ProvinceCards x = Edge.pass(Edge.six(), 10);
        x.mix(1);
        due("follows(4, 1, 16)", x.follows(4, 1, 16), 17);
        due("follows(1, 1, 16)", x.follows(1, 1, 16), 16);
        due("follows(4, 1, 14)", x.follows(4, 1, 14), 14);
        due("follows(4, 0, 23)", x.follows(4, 0, 23), 10);
    }

    private static void marshalCannotBeat() {
        ProvinceCards x = Edge.pass(Edge.six(), 10);
        x.mix(1);
        due("follows(5, 1, 15)", x.follows(5, 1, 15), 14);
        due("follows(5, 1, 8)", x.follows(5, 1, 8), 15);
        due("follows(5, 0, 31)", x.follows(5, 0, 31), 10);
    }

    /** As MIX is odd, a hand has each rank once at most; so no call can show which of several would be played. */
    private static void ranksDifferInAHand() {
        ProvinceCards x = Edge.fresh();
        for (int v = 1; v <= 31; v += 2) {
            x.mix(v);
            for (int first : new int[] {0, 4}) {
                int ranks = 0;
                for (int place = first; place < first + 4; place++) {
                    ranks |= 1 << x.card(place, 9999) % 8;
                }
                due("ranks of four cards with mix " + v, Integer.bitCount(ranks), 4);
            }
        }
    }

    /** Month 10, mix 1: 10 to 13 are of suit 1, and 14 to 17 of suits 1 and 2. */
    private static void mayPlay() {
        ProvinceCards x = Edge.pass(Edge.six(), 10);
        x.mix(1);
        due("follows(1, 1, 8)", x.follows(1, 1, 8), 14);
        due("follows(1, 1, 23)", x.follows(1, 1, 23), 16);
        due("follows(1, 1, 0)", x.follows(1, 1, 0), 16);
        due("follows(0, 0, 0)", x.follows(0, 0, 0), 10);
    }

    /** Mix 5, a card of the suit of the first of his hand led that none of his can beat but by revoking. */
    private static void scholarRevokes() {
        int[] months = {3, 4, 5, 6};
        int[] led = {4, 5, 6, 7};
        int[] scholar = {8, 4, 5, 16};
        int[] others = {3, 4, 5, 6};
        for (int i = 0; i < 4; i++) {
            ProvinceCards x = Edge.pass(Edge.six(), months[i]);
            for (int envoy = 0; envoy < 6; envoy++) {
                int want = envoy == 2 ? scholar[i] : others[i];
                if (envoy == 5) {
                    want = months[i] == 6 ? 21 : scholar[i];
                }
                due("follows(" + envoy + ", 0, " + led[i] + ") in month " + months[i], x.follows(envoy, 0, led[i]), want);
            }
        }
    }

    // ---- months

    private static void whoLeadsFirst() {
        for (int month : new int[] {0, 1, 2, 3, 9998, 9999}) {
            due("trick(0, 2) in month " + month, Edge.sentAt(0, 0, month).trick(0, 2), month % 2);
        }
    }

    /** Month 0, an envoy each: 15 3, then 30 0, then 5 25, then 10 20: state 1 wins the first, state 0 all others. */
    private static void winnersLead() {
        ProvinceCards x = Edge.sent(0, 0);
        int[] leads = {0, 1, 0, 0};
        for (int t = 0; t < 4; t++) {
            due("trick(" + t + ", 2)", x.trick(t, 2), leads[t]);
        }
    }

    /** Month 1, two misers: 26 is led, and 16 neither of its suit nor trump; 21 is led, and 11 is trump. */
    private static void leadersWinUnbeaten() {
        ProvinceCards x = Edge.sentAt(1, 1, 1);
        due("trick(0, 1)", x.trick(0, 1), 26);
        due("trick(0, 0)", x.trick(0, 0), 16);
        due("trick(0, 3)", x.trick(0, 3), 1);
        due("trick(2, 1)", x.trick(2, 1), 21);
        due("trick(2, 0)", x.trick(2, 0), 11);
        due("trick(2, 3)", x.trick(2, 3), 0);
    }

    private static void provinceWrapsAt8() {
        ProvinceCards x = Edge.pass(Edge.six(), 7);
        x.send(1, 0);
        due("now(3)", x.now(3), 7);
        x.months(1);
        due("then(1, 0, 0)", x.then(1, 0, 0), 128);
        due("now(3)", x.now(3), 0);
        x.months(1);
        due("then(1, 0, 0)", x.then(1, 0, 0), 129);
        due("now(3)", Edge.pass(Edge.fresh(), 9999).now(3), 7);
    }

    /** How many tricks state 0 wins: 4, 3, 2, 1 in month 0, and 0 in month 3. */
    private static ProvinceCards wins(int tricks) {
        switch (tricks) {
            case 4:
                return Edge.sent(0, 1);
            case 3:
                return Edge.sent(0, 2);
            case 2:
                return Edge.sent(1, 0);
            case 1:
                return Edge.sent(3, 0);
            default:
                return Edge.sentAt(0, 2, 3);
        }
    }

    private static void threeOrFourWin() {
        int[] whose = {1, 1, -1, 0, 0};
        for (int tricks : new int[] {0, 1, 3, 4}) {
            ProvinceCards x = wins(tricks);
            due("tricks()", x.tricks(), tricks);
            int province = x.now(3);
            x.months(1);
            due("whose(" + province + ") behind " + tricks, x.whose(province), whose[tricks]);
        }
    }

    private static void winnersHaveWon() {
        for (int tricks : new int[] {0, 1, 3, 4}) {
            ProvinceCards x = wins(tricks);
            int winner = x.now(tricks > 2 ? 4 : 5);
            int loser = x.now(tricks > 2 ? 5 : 4);
            x.months(1);
            due("of(" + winner + ", 1) behind " + tricks, x.of(winner, 1), 1);
            due("of(" + loser + ", 1) behind " + tricks, x.of(loser, 1), 0);
        }
    }

    private static void levelIsNobodys() {
        ProvinceCards x = wins(2);
        Edge.provincesAll(x, 1);
        due("tricks()", x.tricks(), 2);
        due("months(1)", x.months(1), 1);
        due("whose(0)", x.whose(0), -1);
        due("count(3)", x.count(3), 0);
    }

    private static void oneAloneHasIt() {
        ProvinceCards x = Edge.sent(3, -1);
        x.months(1);
        due("whose(0)", x.whose(0), 0);
        x = Edge.sent(-1, 3);
        x.months(1);
        due("whose(0)", x.whose(0), 1);
    }

    private static void oneAloneHasNotWon() {
        due("count(3)", Edge.pass(Edge.sent(5, -1), 60).count(3), 0);
        due("count(3)", Edge.pass(Edge.sent(-1, 5), 60).count(3), 0);
    }

    private static void nobodySentNobodys() {
        ProvinceCards x = Edge.six();
        Edge.provincesAll(x, 1);
        due("months(1)", x.months(1), 1);
        due("whose(0)", x.whose(0), -1);
        due("months(7)", x.months(7), 8);
    }

    /** What is won this month counts already, and what is lost counts no more. */
    private static void pursesFill() {
        ProvinceCards x = Edge.sent(3, -1);
        x.province(7, 0);
        x.province(0, 1);
        x.province(1, 1);
        x.months(1);
        due("now(6)", x.now(6), 52);
        due("now(7)", x.now(7), 51);
    }

    private static void pursesAreHeld() {
        ProvinceCards x = Edge.six();
        Edge.provincesAll(x, 0);
        x.province(1, 1);
        x.treasury(0, 99993);
        x.treasury(1, 99998);
        x.months(1);
        due("now(6)", x.now(6), 99999);
        due("now(7)", x.now(7), 99999);
        x.treasury(0, 99994);
        x.months(1);
        due("now(6)", x.now(6), 99999);
        x.months(1);
        due("now(6)", x.now(6), 99999);
        due("now(7)", x.now(7), 99999);
    }

    // ---- the text

    private static void tapeHas120() {
        ProvinceCards x = Edge.fresh();
        for (int i = 1; i <= 120; i++) {
            due("feed(32, 1)", x.feed(32, 1), i);
        }
        due("feed(32, 1)", x.feed(32, 1), Edge.FULL);
        due("count(1)", x.count(1), 120);
        due("spa()", x.spa(), -121);
        Edge.feedText(x, "mix 31" + " ".repeat(113) + ";");
        due("spa()", x.spa(), -121);
        Edge.feedText(x, " ".repeat(113) + "mix 031");
        due("spa()", x.spa(), 1);
    }

    private static void tokensAreLong() {
        due("foxfor 1", Edge.spaOf(Edge.fresh(), "foxfor 1"), -1);
        due("foxes", Edge.spaOf(Edge.fresh(), "foxes"), -1);
        due("mix 15", spaThenMix("mix 15"), 15);
        due("province 11", Edge.spaOf(Edge.fresh(), "province 11"), -10);
        due("mix9", spaThenMix("mix9"), 9);
        due("mix 0000031", spaThenMix("mix 0000031"), 31);
    }

    private static int spaThenMix(String text) {
        ProvinceCards x = Edge.fresh();
        due("spa() of " + text, Edge.spaOf(x, text), 1);
        return x.now(1);
    }

    /** The bytes next to a and z, and capitals, are no letters. */
    private static void lettersAToZ() {
        due("fox`", Edge.spaOf(Edge.fresh(), "fox`"), -4);
        due("fox{", Edge.spaOf(Edge.fresh(), "fox{"), -4);
        due("Fox", Edge.spaOf(Edge.fresh(), "Fox"), -1);
        due("foxA", Edge.spaOf(Edge.fresh(), "foxA"), -4);
        due("foxZ", Edge.spaOf(Edge.fresh(), "foxZ"), -4);
        due("fox a", Edge.spaOf(Edge.fresh(), "fox a"), -5);
        due("fox z", Edge.spaOf(Edge.fresh(), "fox z"), -5);
        due("foxa", Edge.spaOf(Edge.fresh(), "foxa"), -1);
        due("foxz", Edge.spaOf(Edge.fresh(), "foxz"), -1);
    }

    /** However long a number is, it never comes round to one that may be. */
    private static void numbersTo999() {
        for (String number : new String[] {"999", "1000", "1001", "65537", "4294967297", "18446744073709551617", "10000000000000001"}) {
            due("mix " + number, Edge.spaOf(Edge.fresh(), "mix " + number), -5);
            due("fox for " + number, Edge.spaOf(Edge.fresh(), "fox for " + number), -9);
        }
        due("mix /", Edge.spaOf(Edge.fresh(), "mix /"), -5);
        due("mix :", Edge.spaOf(Edge.fresh(), "mix :"), -5);
        due("mix 09", spaThenMix("mix 09"), 9);
    }

    private static void blanksBetween() {
        due("spa()", Edge.spaOf(Edge.fresh(), "  fox   for  1 ;  mix  7 "), 2);
        due("spa()", Edge.spaOf(Edge.fresh(), "fox for1;mix7;province1 0;province1free"), 4);
        due("f ox", Edge.spaOf(Edge.fresh(), "f ox"), -1);
        due("mix 1 5", Edge.spaOf(Edge.fresh(), "mix 1 5"), -7);
        due("tab", Edge.spaOf(Edge.fresh(), "fox\tfor 1"), -4);
        due("line", Edge.spaOf(Edge.fresh(), "fox\n"), -4);
    }

    private static void oneItemOrMore() {
        due("no item", Edge.spaOf(Edge.fresh(), ""), -1);
        due("one item", Edge.spaOf(Edge.fresh(), "fox"), 1);
        due("most items", Edge.spaOf(Edge.fresh(), "mix1;".repeat(23) + "mix1 "), 24);
        due("; ahead", Edge.spaOf(Edge.fresh(), ";fox"), -1);
        due("; behind", Edge.spaOf(Edge.fresh(), "fox;"), -5);
        due("; twice", Edge.spaOf(Edge.fresh(), "fox;;fox"), -5);
        due("no ;", Edge.spaOf(Edge.fresh(), "fox fox"), -5);
    }

    private static void eachNameIsAKind() {
        String[] names = {"envoy", "miser", "scholar", "bribed", "fox", "marshal"};
        for (int kind = 0; kind < 6; kind++) {
            ProvinceCards x = Edge.fresh();
            due(names[kind], Edge.spaOf(x, names[kind]), 1);
            due("of(0, 0)", x.of(0, 0), kind);
            due("now(4)", x.now(4), -1);
            due("now(5)", x.now(5), -1);
            due("short", Edge.spaOf(x, names[kind].substring(0, names[kind].length() - 1)), -1);
            due("long", Edge.spaOf(x, names[kind] + "s"), -1);
        }
    }

    private static void forAState() {
        ProvinceCards x = Edge.six();
        due("fox for 1", Edge.spaOf(x, "fox for 1"), 1);
        due("now(5)", x.now(5), 6);
        due("fox for 0", Edge.spaOf(x, "fox for 0"), 1);
        due("now(4)", x.now(4), 7);
        due("fox for 2", Edge.spaOf(Edge.fresh(), "fox for 2"), -9);
        due("fox for", Edge.spaOf(Edge.fresh(), "fox for"), -8);
        due("fox for free", Edge.spaOf(Edge.fresh(), "fox for free"), -9);
        due("fox 1", Edge.spaOf(Edge.fresh(), "fox 1"), -5);
    }

    private static void mixInText() {
        for (int v = 0; v <= 34; v++) {
            boolean fine = v <= 31 && v % 2 == 1;
            ProvinceCards x = Edge.fresh();
            due("mix " + v, Edge.spaOf(x, "mix " + v), fine ? 1 : -5);
            due("now(1) behind mix " + v, x.now(1), fine ? v : 5);
        }
    }

    private static void provinceInText() {
        for (int p = 0; p <= 10; p++) {
            ProvinceCards x = Edge.fresh();
            due("province " + p, Edge.spaOf(x, "province " + p + " 1"), p <= 7 ? 1 : -10);
            due("then(1, 0, 0)", x.then(1, 0, 0), p <= 7 ? 1 << p : 0);
        }
    }

    private static void stateOrFreeInText() {
        ProvinceCards x = Edge.fresh();
        due("0", Edge.spaOf(x, "province 3 0"), 1);
        due("whose(3)", x.whose(3), 0);
        due("1", Edge.spaOf(x, "province 3 1"), 1);
        due("whose(3)", x.whose(3), 1);
        due("2", Edge.spaOf(x, "province 3 2"), -12);
        due("fre", Edge.spaOf(x, "province 3 fre"), -12);
        due("whose(3)", x.whose(3), 1);
        due("free", Edge.spaOf(x, "province 3 free"), 1);
        due("whose(3)", x.whose(3), -1);
    }

    // ---- faults of the text

    private static void faultAtFirstByte() {
        due("a word", Edge.spaOf(Edge.fresh(), "marshals"), -1);
        due("a number", Edge.spaOf(Edge.fresh(), "mix   1000"), -7);
        due("a later word", Edge.spaOf(Edge.fresh(), "mix 7; xyzzy"), -8);
        due("the last byte of a full tape", Edge.spaOf(Edge.fresh(), " ".repeat(119) + "x"), -120);
    }

    private static void firstFaultIsTold() {
        due("two faults", Edge.spaOf(Edge.fresh(), "mix 8; mix 8"), -5);
        due("a fault ahead of a strange byte", Edge.spaOf(Edge.fresh(), "mix 8 #"), -5);
        due("a strange byte ahead of a fault", Edge.spaOf(Edge.fresh(), "mix # 8"), -5);
        due("a fault ahead of a ninth", Edge.spaOf(Edge.eight(), "mix 8; fox"), -5);
    }

    private static void faultOfNumber() {
        due("mix 0", Edge.spaOf(Edge.fresh(), "mix 0"), -5);
        due("mix 2", Edge.spaOf(Edge.fresh(), "mix 2"), -5);
        due("mix 33", Edge.spaOf(Edge.fresh(), "mix 33"), -5);
        due("province 8", Edge.spaOf(Edge.fresh(), "province 8 1"), -10);
        due("province 7 2", Edge.spaOf(Edge.fresh(), "province 7 2"), -12);
        due("fox for 2", Edge.spaOf(Edge.fresh(), "fox for 2"), -9);
        due("a number as an item", Edge.spaOf(Edge.fresh(), "5"), -1);
        due("a number behind an item", Edge.spaOf(Edge.fresh(), "mix 5 5"), -7);
    }

    private static void faultOfWord() {
        String[] texts = {"envoy", "miser", "scholar", "bribed", "fox", "marshal", "mix 5", "province 1 0"};
        for (String text : texts) {
            String word = text.split(" ")[0];
            for (int i = 0; i < word.length(); i++) {
                due("another letter", Edge.spaOf(Edge.fresh(), text.substring(0, i) + 'q' + text.substring(i + 1)), -1);
            }
        }
        for (String word : new String[] {"qor", "fqr", "foq"}) {
            due("fox " + word, Edge.spaOf(Edge.fresh(), "fox " + word + " 1"), -5);
        }
        for (String word : new String[] {"qree", "fqee", "frqe", "freq"}) {
            due("province 1 " + word, Edge.spaOf(Edge.fresh(), "province 1 " + word), -12);
        }
        due("free", Edge.spaOf(Edge.fresh(), "free"), -1);
        due("for 1", Edge.spaOf(Edge.fresh(), "for 1"), -1);
        due("mix fox", Edge.spaOf(Edge.fresh(), "mix fox"), -5);
        due("mix free", Edge.spaOf(Edge.fresh(), "mix free"), -5);
        due("mix 5 for 1", Edge.spaOf(Edge.fresh(), "mix 5 for 1"), -7);
        due("province free 1", Edge.spaOf(Edge.fresh(), "province free 1"), -10);
        due("fox free", Edge.spaOf(Edge.fresh(), "fox free"), -5);
        due("fox for 1 for 0", Edge.spaOf(Edge.fresh(), "fox for 1 for 0"), -11);
    }

    /** Every byte by itself: letters, digits and ; begin tokens that can't stand there either; blanks alone end too early. */
    private static void faultOfByte() {
        for (int b = 0; b < 256; b++) {
            ProvinceCards x = Edge.fresh();
            x.feed(b, 1);
            due("byte " + b, x.spa(), b == 32 ? -2 : -1);
            Edge.feedText(x, "fox");
            x.feed(b, 1);
            int want = b == 32 ? 1 : b == ';' ? -5 : b >= 'a' && b <= 'z' ? -1 : -4;
            due("fox and byte " + b, x.spa(), want);
        }
    }

    private static void faultOfNinth() {
        due("a 9th", Edge.spaOf(Edge.fresh(), "fox;fox;fox;fox;fox;fox;fox;fox; fox for 7"), -34);
        due("an 8th", Edge.spaOf(Edge.fresh(), "fox;fox;fox;fox;fox;fox;fox;fox"), 8);
        due("a 9th behind eight", Edge.spaOf(Edge.eight(), "mix 7;miser"), -7);
        due("none more", Edge.spaOf(Edge.eight(), "mix 7;province 1 1"), 2);
    }

    private static void faultAtEnd() {
        String[] early = {"", " ", "fox;", "fox; ", "fox for", "fox for  ", "mix", "mix ", "province", "province 7", "province 7 ",
            "mix 5;"};
        for (String text : early) {
            due("'" + text + "'", Edge.spaOf(Edge.fresh(), text), -1 - text.length());
        }
    }

    // ---- on, and sheets

    private static void onIsWhatComes() {
        for (int n : new int[] {0, 1, 59, 60, 99, 100}) {
            ProvinceCards ahead = Edge.rich();
            ProvinceCards gone = Edge.pass(Edge.rich(), n);
            for (int p = 0; p < 8; p++) {
                due("on(" + p + ", " + n + ")", ahead.on(p, n), gone.whose(p));
            }
            for (int state = 0; state < 2; state++) {
                due("then(" + state + ", " + n + ", 1)", ahead.then(state, n, 1), gone.now(6 + state));
            }
        }
    }

    private static void askingChangesNothing() {
        Supplier<ProvinceCards> rich = Edge::rich;
        Edge.asks(rich, "on(3, 100)", x -> x.on(3, 100));
        Edge.asks(rich, "then(0, 100, 1)", x -> x.then(0, 100, 1));
        Edge.asks(rich, "when(6, 1)", x -> x.when(6, 1));
        Edge.asks(rich, "all(0)", x -> x.all(0));
        Edge.asks(rich, "best(0, 40)", x -> x.best(0, 40));
        Edge.asks(rich, "mixed(1, 40)", x -> x.mixed(1, 40));
        Edge.asks(rich, "kind(2, 40)", x -> x.kind(2, 40));
        Edge.asks(rich, "rest(0, 30)", x -> x.rest(0, 30));
        Edge.asks(rich, "peace(40)", x -> x.peace(40));
        Edge.asks(rich, "champion(100)", x -> x.champion(100));
        Edge.asks(rich, "read(1, 0, 2)", x -> x.read(1, 0, 2));
        Edge.asks(rich, "trick(3, 3)", x -> x.trick(3, 3));
        Edge.asks(rich, "tricks()", x -> x.tricks());
    }

    private static void sheets0To3() {
        for (int s = -1; s <= 4; s++) {
            due("sheet(" + s + ", 8, 1)", Edge.fresh().sheet(s, 8, 1), s >= 0 && s <= 3 ? 1 : BEYOND);
        }
        ProvinceCards x = Edge.fresh();
        x.sheet(3, 8, 1);
        due("lays(3)", x.lays(3), 1);
        due("lays(0)", x.lays(0), Edge.MISSING);
    }

    private static void sheetsHave40() {
        ProvinceCards x = Edge.fresh();
        due("sheet(0, 64, 41)", x.sheet(0, 64, 41), BEYOND);
        due("sheet(0, 64, 40)", x.sheet(0, 64, 40), 40);
        due("write(0, 39, 1)", x.write(0, 39, 1), 0);
        due("write(0, 40, 1)", x.write(0, 40, 1), BEYOND);
    }

    private static void sheetsOfBits() {
        for (int bits = -1; bits <= 66; bits++) {
            boolean fine = bits == 0 || bits == 8 || bits == 16 || bits == 64;
            due("sheet(0, " + bits + ", 0)", Edge.fresh().sheet(0, bits, 0), fine ? 0 : BEYOND);
        }
    }

    private static void sheetsAreMissingAtFirst() {
        for (int s = 0; s < 4; s++) {
            due("lays(" + s + ")", Edge.fresh().lays(s), Edge.MISSING);
        }
    }
}
