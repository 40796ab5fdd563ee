import java.util.function.Supplier;

/** Each sentence of the document's promises that names an edge has a test of its own here, under its words. */
public final class PromiseEdgesTest {
    private static final int BEYOND = Edge.BEYOND;
    private static final int NONE = Edge.NONE;
    private static final int STATE = Edge.STATE;
    private static final int MISSING = Edge.MISSING;
    private static final int LEAST = Edge.LEAST;
    private static final int MOST = Edge.MOST;

    public static void main(String[] args) {
        Edge.sentence("What it is: An object is used for at most 512 calls", PromiseEdgesTest::lastCallIsAnswered);
        theTable();
        theEnvoys();
        theMonths();
        whatIsBest();
        theText();
        theSheets();
        theImages();
        Edge.end();
    }

    private static void due(String call, long got, long want) {
        Edge.due(call, got, want);
    }

    private static void sentence(String where, Runnable test) {
        Edge.sentence("Promise " + where, test);
    }

    private static void refused(String call, int finding, Edge.Act act) {
        Edge.refused(Edge::rich, call, finding, act);
    }

    private static void theTable() {
        sentence("1: No ENVOYS", PromiseEdgesTest::newHasNoEnvoys);
        sentence("1: THE TAPE is empty", PromiseEdgesTest::newHasEmptyTape);
        sentence("1: no image is kept", PromiseEdgesTest::newKeepsNoImage);
        sentence("2: mix: what it was", PromiseEdgesTest::mixWas);
        sentence("2: mix: BEYOND", PromiseEdgesTest::mixBeyond);
        sentence("3: province: (-1: nobody's): whose it was", PromiseEdgesTest::provinceWas);
        sentence("3: province: BEYOND", PromiseEdgesTest::provinceBeyond);
        sentence("4: whose: (-1)", PromiseEdgesTest::whoseNobodys);
        sentence("4: whose: BEYOND", PromiseEdgesTest::whoseBeyond);
        sentence("5: treasury: what it was", PromiseEdgesTest::treasuryWas);
        sentence("5: treasury: BEYOND", PromiseEdgesTest::treasuryBeyond);
        sentence("6: now: 4, 5 whom STATE 0, 1 has SENT (-1)", PromiseEdgesTest::nowNobodySent);
        sentence("6: now: BEYOND", PromiseEdgesTest::nowBeyond);
        sentence("7: card: a place (0 to 7)", PromiseEdgesTest::cardPlaces);
        sentence("7: card: a MONTH (0 to 9999)", PromiseEdgesTest::cardMonths);
        sentence("7: card: BEYOND", PromiseEdgesTest::cardBeyond);
    }

    private static void theEnvoys() {
        sentence("8: envoy: One more: the number", PromiseEdgesTest::envoyNumbers);
        sentence("8: envoy: BEYOND: kind", PromiseEdgesTest::envoyBeyond);
        sentence("8: envoy: FULL", PromiseEdgesTest::envoyFull);
        sentence("9: of: STATES that have SENT him, as a set", PromiseEdgesTest::ofSenders);
        sentence("9: of: BEYOND", PromiseEdgesTest::ofBeyond);
        sentence("10: turn: what it was", PromiseEdgesTest::turnWas);
        sentence("10: turn: BEYOND", PromiseEdgesTest::turnBeyond);
        sentence("11: as: BEYOND: no such one, kind", PromiseEdgesTest::asBeyond);
        sentence("11: as: KIND: it isn't of that kind, nor of one under it", PromiseEdgesTest::asKind);
        sentence("12: won: what it was", PromiseEdgesTest::wonWas);
        sentence("12: won: BEYOND", PromiseEdgesTest::wonBeyond);
        sentence("13: send: (-1: nobody): whom till then (-1)", PromiseEdgesTest::sendNobody);
        sentence("13: send: BEYOND", PromiseEdgesTest::sendBeyond);
        sentence("14: leads: BEYOND", PromiseEdgesTest::leadsBeyond);
        sentence("15: follows: (whatever that card is)", PromiseEdgesTest::followsAnyCard);
        sentence("15: follows: BEYOND", PromiseEdgesTest::followsBeyond);
    }

    private static void theMonths() {
        sentence("16: trick: TRICK t (0 to 3)", PromiseEdgesTest::trickFirstAndLast);
        sentence("16: trick: BEYOND", PromiseEdgesTest::trickBeyond);
        sentence("16: trick: STATE: one has nobody SENT", PromiseEdgesTest::trickState);
        sentence("17: tricks: How many TRICKS STATE 0 will win", PromiseEdgesTest::tricksNoneAndAll);
        sentence("17: tricks: STATE: one has nobody SENT", PromiseEdgesTest::tricksState);
        sentence("18: months: n MONTHS go (1 to 60)", PromiseEdgesTest::monthsFewestAndMost);
        sentence("18: months: how many PROVINCES are nobody's then", PromiseEdgesTest::monthsNobodys);
        sentence("18: months: BEYOND", PromiseEdgesTest::monthsBeyond);
        sentence("18: months: STATE: MONTH would be above 9999", PromiseEdgesTest::monthsState);
        sentence("19: on: ON n MONTHS (0 to 100; -1)", PromiseEdgesTest::onFewestAndMost);
        sentence("19: on: BEYOND", PromiseEdgesTest::onBeyond);
        sentence("20: then: ON n MONTHS (0 to 100)", PromiseEdgesTest::thenFewestAndMost);
        sentence("20: then: BEYOND", PromiseEdgesTest::thenBeyond);
        sentence("21: when: In how many MONTHS (0 to 100)", PromiseEdgesTest::whenFewestAndMost);
        sentence("21: when: of a STATE (-1: nobody's)", PromiseEdgesTest::whenNobodys);
        sentence("21: when: first", PromiseEdgesTest::whenFirst);
        sentence("21: when: BEYOND", PromiseEdgesTest::whenBeyond);
        sentence("21: when: NONE", PromiseEdgesTest::whenNone);
        sentence("22: all: In how many MONTHS (0 to 100)", PromiseEdgesTest::allFewestAndMost);
        sentence("22: all: all PROVINCES first", PromiseEdgesTest::allFirst);
        sentence("22: all: BEYOND", PromiseEdgesTest::allBeyond);
        sentence("22: all: NONE", PromiseEdgesTest::allNone);
    }

    private static void whatIsBest() {
        sentence("23: best: (one that is there)", PromiseEdgesTest::bestLastOne);
        sentence("23: best: ON n MONTHS (1 to 40)", PromiseEdgesTest::bestFewestAndMost);
        sentence("23: best: of several the least", PromiseEdgesTest::bestLeast);
        sentence("23: best: BEYOND", PromiseEdgesTest::bestBeyond);
        sentence("23: best: NONE: there is none", PromiseEdgesTest::bestNone);
        sentence("24: mixed: ON n MONTHS (1 to 40)", PromiseEdgesTest::mixedFewestAndMost);
        sentence("24: mixed: The MIX", PromiseEdgesTest::mixedGreatest);
        sentence("24: mixed: of several the least", PromiseEdgesTest::mixedLeast);
        sentence("24: mixed: BEYOND", PromiseEdgesTest::mixedBeyond);
        sentence("25: kind: ON n MONTHS (1 to 40)", PromiseEdgesTest::kindFewestAndMost);
        sentence("25: kind: The KIND as one of which", PromiseEdgesTest::kindLastOne);
        sentence("25: kind: of several the least", PromiseEdgesTest::kindLeast);
        sentence("25: kind: BEYOND", PromiseEdgesTest::kindBeyond);
        sentence("26: rest: How many MONTHS (0 to 30)", PromiseEdgesTest::restFewestAndMost);
        sentence("26: rest: with nobody SENT by either", PromiseEdgesTest::restFreesProvinces);
        sentence("26: rest: ON n MONTHS (1 to 30) behind these", PromiseEdgesTest::restMonthsBehind);
        sentence("26: rest: of several the fewest", PromiseEdgesTest::restLeast);
        sentence("26: rest: BEYOND", PromiseEdgesTest::restBeyond);
        sentence("27: peace: ON n MONTHS (1 to 40)", PromiseEdgesTest::peaceFewestAndMost);
        sentence("27: peace: of several the least", PromiseEdgesTest::peaceLeast);
        sentence("27: peace: BEYOND", PromiseEdgesTest::peaceBeyond);
        sentence("28: champion: ON n MONTHS (0 to 100)", PromiseEdgesTest::championFewestAndMost);
        sentence("28: champion: of several the least", PromiseEdgesTest::championLeast);
        sentence("28: champion: BEYOND", PromiseEdgesTest::championBeyond);
        sentence("28: champion: NONE: nobody is there", PromiseEdgesTest::championNone);
    }

    private static void theText() {
        sentence("29: feed: the n lowest bytes, the highest of these first (n 1 to 4)", PromiseEdgesTest::feedBytes);
        sentence("29: feed: how many it has", PromiseEdgesTest::feedCounts);
        sentence("29: feed: BEYOND: n", PromiseEdgesTest::feedBeyond);
        sentence("29: feed: FULL", PromiseEdgesTest::feedFull);
        sentence("30: wipe: THE TAPE is empty: how many it had", PromiseEdgesTest::wipeHad);
        sentence("31: spa: whose ITEMS come to what there is", PromiseEdgesTest::spaAdds);
        sentence("31: spa: and empty then", PromiseEdgesTest::spaEmptiesTape);
        sentence("31: spa: how many ITEMS", PromiseEdgesTest::spaItems);
        sentence("31: spa: With a FAULT: -1 less its place", PromiseEdgesTest::spaFault);
        sentence("31: spa: nothing changes but that THE TAPE is empty", PromiseEdgesTest::spaFaultChangesNothing);
        sentence("31: spa: no finding", PromiseEdgesTest::spaFaultIsNoFinding);
    }

    private static void theSheets() {
        sentence("32: sheet: n numbers, all 0", PromiseEdgesTest::sheetIsAll0);
        sentence("32: sheet: bits 0: it is MISSING: (0 if it is MISSING)", PromiseEdgesTest::sheetMissing);
        sentence("32: sheet: BEYOND: no such sheet, other bits", PromiseEdgesTest::sheetBeyond);
        sentence("32: sheet: SIZE: n is below 0 (also with bits 0)", PromiseEdgesTest::sheetSize);
        sentence("32: sheet: BEYOND: n is above 40 (also with bits 0)", PromiseEdgesTest::sheetAbove40);
        sentence("33: write: v (its lowest bits)", PromiseEdgesTest::writeWraps);
        sentence("33: write: BEYOND: no such sheet", PromiseEdgesTest::writeNoSheet);
        sentence("33: write: MISSING", PromiseEdgesTest::writeMissing);
        sentence("33: write: BEYOND: no such number", PromiseEdgesTest::writeNoNumber);
        sentence("34: copy: (as they all were): n", PromiseEdgesTest::copyOverItself);
        sentence("34: copy: none at all", PromiseEdgesTest::copyNone);
        sentence("34: copy: BEYOND: no such sheet (either)", PromiseEdgesTest::copyNoSheet);
        sentence("34: copy: MISSING: one is", PromiseEdgesTest::copyMissing);
        sentence("34: copy: KIND: they are not of as many bits", PromiseEdgesTest::copyKind);
        sentence("34: copy: BEYOND: one has not so many", PromiseEdgesTest::copyNotSoMany);
        sentence("34: copy: BEYOND: or from, to or n is below 0", PromiseEdgesTest::copyBelow0);
        sentence("35: lays: (-1 to 1; others are left out)", PromiseEdgesTest::laysLeavesOut);
        sentence("35: lays: or those that stand for none", PromiseEdgesTest::laysEightAtMost);
        sentence("35: lays: BEYOND: no such sheet", PromiseEdgesTest::laysNoSheet);
        sentence("35: lays: MISSING", PromiseEdgesTest::laysMissing);
        sentence("36: book: as many as it has numbers", PromiseEdgesTest::bookFewestAndMost);
        sentence("36: book: a set of all in 8 bits", PromiseEdgesTest::bookWraps);
        sentence("36: book: BEYOND: no such sheet", PromiseEdgesTest::bookNoSheet);
        sentence("36: book: MISSING", PromiseEdgesTest::bookMissing);
        sentence("36: book: BEYOND: state", PromiseEdgesTest::bookNoState);
        sentence("37: read: how many pairs", PromiseEdgesTest::readAllAndNone);
        sentence("37: read: pairs of a KIND of one and a MIX", PromiseEdgesTest::readPairs);
        sentence("37: read: make it just so", PromiseEdgesTest::readJustSo);
        sentence("37: read: BEYOND: no such sheet", PromiseEdgesTest::readNoSheet);
        sentence("37: read: MISSING", PromiseEdgesTest::readMissing);
        sentence("37: read: BEYOND: state, envoy", PromiseEdgesTest::readNoStateOrEnvoy);
    }

    private static void theImages() {
        sentence("38: image: All that section 1 tells is kept: 1", PromiseEdgesTest::imageKeepsAll);
        sentence("38: image: (THE TAPE not)", PromiseEdgesTest::imageKeepsNoTape);
        sentence("39: undo: what was kept latest", PromiseEdgesTest::undoLatest);
        sentence("39: undo: (which stays)", PromiseEdgesTest::undoStays);
        sentence("39: undo: how many ENVOYS", PromiseEdgesTest::undoEnvoys);
        sentence("39: undo: NONE: nothing is kept", PromiseEdgesTest::undoNone);
        sentence("40: tear: Nothing is kept: 1 if something was, else 0", PromiseEdgesTest::tearOnce);
        sentence("41: count: none and most", PromiseEdgesTest::countNoneAndMost);
        sentence("41: count: BEYOND: another what", PromiseEdgesTest::countBeyond);
        sentence("42: status: which -1: all, 0 to 6: BEYOND to SIZE", PromiseEdgesTest::statusEach);
        sentence("42: status: (undo() takes none back)", PromiseEdgesTest::statusStays);
        sentence("42: status: BEYOND (counted from then on): another one", PromiseEdgesTest::statusBeyond);
    }

    // ---- a new object, and the table

    private static void lastCallIsAnswered() {
        ProvinceCards x = Edge.fresh();
        for (int call = 1; call < 512; call++) {
            due("mix(0) as call " + call, x.mix(0), BEYOND);
        }
        due("status(-1) as call 512", x.status(-1), 511);
    }

    private static void newHasNoEnvoys() {
        Edge.rich();
        ProvinceCards x = Edge.fresh();
        due("count(0)", x.count(0), 0);
        due("of(0, 0)", x.of(0, 0), BEYOND);
        due("send(0, 0)", x.send(0, 0), BEYOND);
        due("envoy(3)", x.envoy(3), 0);
    }

    private static void newHasEmptyTape() {
        Edge.rich();
        due("count(1)", Edge.fresh().count(1), 0);
        due("wipe()", Edge.fresh().wipe(), 0);
        due("feed(32, 1)", Edge.fresh().feed(32, 1), 1);
    }

    private static void newKeepsNoImage() {
        Edge.rich();
        due("undo()", Edge.fresh().undo(), NONE);
        due("tear()", Edge.fresh().tear(), 0);
    }

    private static void mixWas() {
        ProvinceCards x = Edge.fresh();
        due("mix(1)", x.mix(1), 5);
        due("mix(31)", x.mix(31), 1);
        due("mix(31)", x.mix(31), 31);
    }

    private static void mixBeyond() {
        for (int v : new int[] {LEAST, -31, -1, 0, 2, 4, 30, 32, 33, 37, MOST}) {
            refused("mix(" + v + ")", BEYOND, x -> x.mix(v));
        }
    }

    private static void provinceWas() {
        ProvinceCards x = Edge.fresh();
        for (int p : new int[] {0, 7}) {
            due("province(" + p + ", 1)", x.province(p, 1), -1);
            due("province(" + p + ", 0)", x.province(p, 0), 1);
            due("province(" + p + ", -1)", x.province(p, -1), 0);
            due("province(" + p + ", -1)", x.province(p, -1), -1);
        }
    }

    private static void provinceBeyond() {
        for (int p : new int[] {LEAST, -1, 8, MOST}) {
            refused("province(" + p + ", 0)", BEYOND, x -> x.province(p, 0));
        }
        for (int state : new int[] {LEAST, -2, 2, MOST}) {
            refused("province(3, " + state + ")", BEYOND, x -> x.province(3, state));
        }
    }

    private static void whoseNobodys() {
        ProvinceCards x = Edge.fresh();
        due("whose(0)", x.whose(0), -1);
        due("whose(7)", x.whose(7), -1);
        x.province(7, 1);
        due("whose(7)", x.whose(7), 1);
    }

    private static void whoseBeyond() {
        for (int p : new int[] {LEAST, -1, 8, MOST}) {
            refused("whose(" + p + ")", BEYOND, x -> x.whose(p));
        }
    }

    private static void treasuryWas() {
        ProvinceCards x = Edge.fresh();
        due("treasury(1, 99999)", x.treasury(1, 99999), 50);
        due("treasury(1, 0)", x.treasury(1, 0), 99999);
        due("treasury(1, 0)", x.treasury(1, 0), 0);
        due("now(6)", x.now(6), 50);
    }

    private static void treasuryBeyond() {
        for (int v : new int[] {LEAST, -1, 100000, MOST}) {
            refused("treasury(1, " + v + ")", BEYOND, x -> x.treasury(1, v));
        }
        for (int state : new int[] {LEAST, -1, 2, MOST}) {
            refused("treasury(" + state + ", 1)", BEYOND, x -> x.treasury(state, 1));
        }
    }

    private static void nowNobodySent() {
        ProvinceCards x = Edge.sent(5, 0);
        due("now(4)", x.now(4), 5);
        due("now(5)", x.now(5), 0);
        x.send(0, -1);
        due("now(4)", x.now(4), -1);
        due("now(5)", x.now(5), 0);
    }

    private static void nowBeyond() {
        for (int what : new int[] {LEAST, -1, 8, MOST}) {
            refused("now(" + what + ")", BEYOND, x -> x.now(what));
        }
        due("now(0)", Edge.rich().now(0), 13);
        due("now(7)", Edge.fresh().now(7), 50);
    }

    private static void cardPlaces() {
        due("card(0, 0)", Edge.fresh().card(0, 0), 0);
        due("card(7, 0)", Edge.fresh().card(7, 0), 3);
    }

    private static void cardMonths() {
        due("card(3, 0)", Edge.fresh().card(3, 0), 15);
        due("card(3, 9999)", Edge.fresh().card(3, 9999), 30);
        due("card(3, 0) later on", Edge.pass(Edge.fresh(), 9).card(3, 0), 15);
    }

    private static void cardBeyond() {
        for (int place : new int[] {LEAST, -1, 8, MOST}) {
            refused("card(" + place + ", 0)", BEYOND, x -> x.card(place, 0));
        }
        for (int month : new int[] {LEAST, -1, 10000, MOST}) {
            refused("card(0, " + month + ")", BEYOND, x -> x.card(0, month));
        }
    }

    // ---- envoys

    private static void envoyNumbers() {
        ProvinceCards x = Edge.fresh();
        for (int i = 0; i < 8; i++) {
            due("envoy(" + i % 6 + ")", x.envoy(i % 6), i);
        }
        due("of(7, 0)", x.of(7, 0), 1);
    }

    private static void envoyBeyond() {
        for (int kind : new int[] {LEAST, -1, 6, MOST}) {
            refused("envoy(" + kind + ")", BEYOND, x -> x.envoy(kind));
        }
    }

    private static void envoyFull() {
        Edge.refused(Edge::eight, "envoy(0)", Edge.FULL, x -> x.envoy(0));
        Edge.refused(Edge::eight, "envoy(5)", Edge.FULL, x -> x.envoy(5));
        ProvinceCards x = Edge.six();
        x.image();
        x.envoy(0);
        x.envoy(0);
        due("envoy(0)", x.envoy(0), Edge.FULL);
        x.undo();
        due("envoy(0) where there is room again", x.envoy(0), 6);
    }

    private static void ofSenders() {
        due("of(3, 2)", Edge.sent(-1, -1).of(3, 2), 0);
        due("of(3, 2)", Edge.sent(3, -1).of(3, 2), 1);
        due("of(3, 2)", Edge.sent(-1, 3).of(3, 2), 2);
        due("of(3, 2)", Edge.sent(3, 3).of(3, 2), 3);
    }

    private static void ofBeyond() {
        for (int envoy : new int[] {LEAST, -1, 6, MOST}) {
            refused("of(" + envoy + ", 0)", BEYOND, x -> x.of(envoy, 0));
        }
        for (int what : new int[] {LEAST, -1, 3, MOST}) {
            refused("of(5, " + what + ")", BEYOND, x -> x.of(5, what));
        }
        Edge.refused(Edge::eight, "of(8, 0)", BEYOND, x -> x.of(8, 0));
    }

    private static void turnWas() {
        ProvinceCards x = Edge.six();
        x.won(5, 9);
        due("turn(5, 0)", x.turn(5, 0), 5);
        due("turn(5, 5)", x.turn(5, 5), 0);
        due("turn(5, 5)", x.turn(5, 5), 5);
        due("of(5, 1)", x.of(5, 1), 9);
    }

    private static void turnBeyond() {
        for (int bad : new int[] {LEAST, -1, 6, MOST}) {
            refused("turn(" + bad + ", 0)", BEYOND, x -> x.turn(bad, 0));
            refused("turn(1, " + bad + ")", BEYOND, x -> x.turn(1, bad));
        }
        Edge.refused(Edge::fresh, "turn(0, 0)", BEYOND, x -> x.turn(0, 0));
    }

    private static void asBeyond() {
        for (int bad : new int[] {LEAST, -1, 6, MOST}) {
            refused("as(" + bad + ", 0)", BEYOND, x -> x.as(bad, 0));
            refused("as(1, " + bad + ")", BEYOND, x -> x.as(1, bad));
        }
        Edge.refused(Edge::fresh, "as(0, 0)", BEYOND, x -> x.as(0, 0));
    }

    private static void asKind() {
        Edge.refused(Edge::six, "as(0, 1)", Edge.KIND, x -> x.as(0, 1));
        Edge.refused(Edge::six, "as(1, 4)", Edge.KIND, x -> x.as(1, 4));
        Edge.refused(Edge::six, "as(4, 5)", Edge.KIND, x -> x.as(4, 5));
        Edge.refused(Edge::six, "as(5, 1)", Edge.KIND, x -> x.as(5, 1));
        Edge.refused(Edge::six, "as(2, 3)", Edge.KIND, x -> x.as(2, 3));
        ProvinceCards x = Edge.six();
        x.won(4, 9999);
        due("as(4, 4)", x.as(4, 4), 9999);
        due("as(4, 1)", x.as(4, 1), 9999);
        due("as(4, 0)", x.as(4, 0), 9999);
        x.turn(4, 0);
        due("as(4, 1)", x.as(4, 1), Edge.KIND);
    }

    private static void wonWas() {
        ProvinceCards x = Edge.six();
        due("won(5, 9999)", x.won(5, 9999), 0);
        due("won(5, 0)", x.won(5, 0), 9999);
        due("won(5, 0)", x.won(5, 0), 0);
    }

    private static void wonBeyond() {
        for (int v : new int[] {LEAST, -1, 10000, MOST}) {
            refused("won(1, " + v + ")", BEYOND, x -> x.won(1, v));
        }
        for (int envoy : new int[] {LEAST, -1, 6, MOST}) {
            refused("won(" + envoy + ", 1)", BEYOND, x -> x.won(envoy, 1));
        }
    }

    private static void sendNobody() {
        ProvinceCards x = Edge.six();
        due("send(1, -1)", x.send(1, -1), -1);
        due("send(1, 5)", x.send(1, 5), -1);
        due("send(1, 0)", x.send(1, 0), 5);
        due("send(1, -1)", x.send(1, -1), 0);
        due("now(5)", x.now(5), -1);
        due("send(0, -1) where nobody is", Edge.fresh().send(0, -1), -1);
    }

    private static void sendBeyond() {
        for (int envoy : new int[] {LEAST, -2, 6, MOST}) {
            refused("send(1, " + envoy + ")", BEYOND, x -> x.send(1, envoy));
        }
        for (int state : new int[] {LEAST, -1, 2, MOST}) {
            refused("send(" + state + ", 1)", BEYOND, x -> x.send(state, 1));
            refused("send(" + state + ", -1)", BEYOND, x -> x.send(state, -1));
        }
        Edge.refused(Edge::fresh, "send(0, 0)", BEYOND, x -> x.send(0, 0));
    }

    private static void leadsBeyond() {
        for (int envoy : new int[] {LEAST, -1, 6, MOST}) {
            refused("leads(" + envoy + ", 0)", BEYOND, x -> x.leads(envoy, 0));
        }
        for (int state : new int[] {LEAST, -1, 2, MOST}) {
            refused("leads(5, " + state + ")", BEYOND, x -> x.leads(5, state));
        }
    }

    /** Month 1, mix 5: hands 1 6 11 16 and 21 26 31 4; suit 1 is trump; a miser follows with his lowest of the suit. */
    private static void followsAnyCard() {
        ProvinceCards x = Edge.pass(Edge.six(), 1);
        for (int card = 0; card < 32; card++) {
            int[] lowest = {1, 11, 16, 16};
            due("follows(1, 0, " + card + ")", x.follows(1, 0, card), lowest[card / 8]);
        }
    }

    private static void followsBeyond() {
        for (int envoy : new int[] {LEAST, -1, 6, MOST}) {
            refused("follows(" + envoy + ", 0, 0)", BEYOND, x -> x.follows(envoy, 0, 0));
        }
        for (int state : new int[] {LEAST, -1, 2, MOST}) {
            refused("follows(5, " + state + ", 0)", BEYOND, x -> x.follows(5, state, 0));
        }
        for (int card : new int[] {LEAST, -1, 32, MOST}) {
            refused("follows(5, 1, " + card + ")", BEYOND, x -> x.follows(5, 1, card));
        }
    }

    // ---- months

    /** Month 0, two of kind 0: the first trick is 15 3, the last one 10 20; state 0 leads both. */
    private static void trickFirstAndLast() {
        ProvinceCards x = Edge.sent(0, 0);
        int[] first = {15, 3, 0, 1};
        int[] last = {10, 20, 0, 0};
        for (int what = 0; what < 4; what++) {
            due("trick(0, " + what + ")", x.trick(0, what), first[what]);
            due("trick(3, " + what + ")", x.trick(3, what), last[what]);
        }
    }

    private static void trickBeyond() {
        for (int bad : new int[] {LEAST, -1, 4, MOST}) {
            refused("trick(" + bad + ", 0)", BEYOND, x -> x.trick(bad, 0));
            refused("trick(0, " + bad + ")", BEYOND, x -> x.trick(0, bad));
        }
    }

    private static void trickState() {
        Edge.refused(() -> Edge.sent(-1, 3), "trick(0, 0)", STATE, x -> x.trick(0, 0));
        Edge.refused(() -> Edge.sent(3, -1), "trick(3, 3)", STATE, x -> x.trick(3, 3));
        Edge.refused(() -> Edge.sent(-1, -1), "trick(0, 2)", STATE, x -> x.trick(0, 2));
        Edge.refused(Edge::fresh, "trick(0, 0)", STATE, x -> x.trick(0, 0));
    }

    private static void tricksNoneAndAll() {
        due("tricks()", Edge.sentAt(0, 0, 3).tricks(), 0);
        due("tricks()", Edge.sent(0, 1).tricks(), 4);
    }

    private static void tricksState() {
        Edge.refused(() -> Edge.sent(-1, 3), "tricks()", STATE, x -> x.tricks());
        Edge.refused(() -> Edge.sent(3, -1), "tricks()", STATE, x -> x.tricks());
        Edge.refused(() -> Edge.sent(-1, -1), "tricks()", STATE, x -> x.tricks());
    }

    private static void monthsFewestAndMost() {
        ProvinceCards x = Edge.sent(-1, 0);
        due("months(1)", x.months(1), 7);
        due("now(0)", x.now(0), 1);
        due("months(60)", x.months(60), 0);
        due("now(0)", x.now(0), 61);
        due("now(7)", x.now(7), 50 + 28 + 54 * 8);
    }

    private static void monthsNobodys() {
        due("months(1)", Edge.fresh().months(1), 8);
        due("months(7)", Edge.sent(0, -1).months(7), 1);
        due("months(8)", Edge.sent(0, -1).months(8), 0);
    }

    private static void monthsBeyond() {
        for (int n : new int[] {LEAST, -1, 0, 61, MOST}) {
            refused("months(" + n + ")", BEYOND, x -> x.months(n));
        }
    }

    private static ProvinceCards late() {
        return Edge.pass(Edge.sent(0, -1), 9940);
    }

    private static void monthsState() {
        Edge.refused(PromiseEdgesTest::late, "months(60)", STATE, x -> x.months(60));
        Edge.refused(() -> Edge.pass(Edge.fresh(), 9999), "months(1)", STATE, x -> x.months(1));
        ProvinceCards x = late();
        due("months(59)", x.months(59), 0);
        due("now(0)", x.now(0), 9999);
    }

    /** Month 99 of two of kind 0 with mix 1 takes province 3 from state 0 to state 1. */
    private static void onFewestAndMost() {
        ProvinceCards x = Edge.sent(0, 0);
        x.mix(1);
        due("on(3, 0)", x.on(3, 0), -1);
        due("on(3, 99)", x.on(3, 99), 0);
        due("on(3, 100)", x.on(3, 100), 1);
        x = Edge.pass(Edge.sent(0, -1), 9999);
        x.send(0, -1);
        due("on(7, 1) behind the last month", x.on(7, 1), -1);
        due("on(6, 100) behind the last month", x.on(6, 100), -1);
    }

    private static void onBeyond() {
        for (int p : new int[] {LEAST, -1, 8, MOST}) {
            refused("on(" + p + ", 0)", BEYOND, x -> x.on(p, 0));
        }
        for (int n : new int[] {LEAST, -1, 101, MOST}) {
            refused("on(0, " + n + ")", BEYOND, x -> x.on(0, n));
        }
    }

    private static void thenFewestAndMost() {
        ProvinceCards x = Edge.sent(-1, 2);
        due("then(1, 0, 0)", x.then(1, 0, 0), 0);
        due("then(1, 0, 1)", x.then(1, 0, 1), 50);
        due("then(1, 7, 0)", x.then(1, 7, 0), 127);
        due("then(1, 8, 0)", x.then(1, 8, 0), 255);
        due("then(1, 100, 0)", x.then(1, 100, 0), 255);
        due("then(1, 100, 1)", x.then(1, 100, 1), 50 + 28 + 93 * 8);
        x.treasury(1, 99999);
        due("then(1, 100, 1)", x.then(1, 100, 1), 99999);
    }

    private static void thenBeyond() {
        for (int bad : new int[] {LEAST, -1, 2, MOST}) {
            refused("then(" + bad + ", 0, 0)", BEYOND, x -> x.then(bad, 0, 0));
            refused("then(0, 0, " + bad + ")", BEYOND, x -> x.then(0, 0, bad));
        }
        for (int n : new int[] {LEAST, -1, 101, MOST}) {
            refused("then(1, " + n + ", 1)", BEYOND, x -> x.then(1, n, 1));
        }
    }

    /** As months come again after 96, none is first later than that. */
    private static void whenFewestAndMost() {
        ProvinceCards x = Edge.sent(0, 2);
        x.mix(11);
        x.months(19);
        Edge.provincesAll(x, -1);
        due("when(2, 0)", x.when(2, 0), 96);
        due("on(2, 95)", x.on(2, 95) == 0 ? 1 : 0, 0);
        x.province(2, 0);
        due("when(2, 0)", x.when(2, 0), 0);
    }

    private static void whenNobodys() {
        ProvinceCards x = Edge.six();
        Edge.provincesAll(x, 1);
        due("when(0, -1)", x.when(0, -1), 1);
        due("when(7, -1)", x.when(7, -1), 8);
        x.province(7, -1);
        due("when(7, -1)", x.when(7, -1), 0);
    }

    private static void whenFirst() {
        ProvinceCards x = Edge.sent(-1, 4);
        due("when(0, 1)", x.when(0, 1), 1);
        due("when(7, 1)", x.when(7, 1), 8);
        x.months(1);
        due("when(0, 1)", x.when(0, 1), 0);
        x.province(0, 0);
        due("when(0, 1)", x.when(0, 1), 8);
    }

    private static void whenBeyond() {
        for (int p : new int[] {LEAST, -1, 8, MOST}) {
            refused("when(" + p + ", 0)", BEYOND, x -> x.when(p, 0));
        }
        for (int state : new int[] {LEAST, -2, 2, MOST}) {
            refused("when(0, " + state + ")", BEYOND, x -> x.when(0, state));
        }
    }

    private static void whenNone() {
        Edge.refused(() -> Edge.sent(0, -1), "when(0, 1)", NONE, x -> x.when(0, 1));
        Edge.refused(Edge::six, "when(7, 0)", NONE, x -> x.when(7, 0));
        Edge.refused(PromiseEdgesTest::held, "when(3, -1)", NONE, x -> x.when(3, -1));
    }

    private static ProvinceCards held() {
        ProvinceCards x = Edge.sent(0, -1);
        Edge.provincesAll(x, 0);
        return x;
    }

    /** No state with anybody else at the table has all provinces first later than in 70 months. */
    private static void allFewestAndMost() {
        due("all(0)", held().all(0), 0);
        ProvinceCards x = Edge.pass(Edge.six(), 79);
        x.mix(11);
        x.send(0, 0);
        x.send(1, 2);
        due("all(1)", x.all(1), 70);
        due("then(1, 69, 0)", x.then(1, 69, 0) == 255 ? 1 : 0, 0);
        due("then(1, 70, 0)", x.then(1, 70, 0), 255);
    }

    private static void allFirst() {
        ProvinceCards x = Edge.sent(0, -1);
        due("all(0)", x.all(0), 8);
        x.months(7);
        due("all(0)", x.all(0), 1);
        x.months(1);
        due("all(0)", x.all(0), 0);
        x.province(7, -1);
        due("all(0)", x.all(0), 8);
    }

    private static void allBeyond() {
        for (int state : new int[] {LEAST, -1, 2, MOST}) {
            refused("all(" + state + ")", BEYOND, x -> x.all(state));
        }
    }

    private static void allNone() {
        Edge.refused(Edge::fresh, "all(0)", NONE, x -> x.all(0));
        Edge.refused(PromiseEdgesTest::held, "all(1)", NONE, x -> x.all(1));
        Edge.refused(PromiseEdgesTest::sevenOfEight, "all(1)", NONE, x -> x.all(1));
    }

    private static ProvinceCards sevenOfEight() {
        ProvinceCards x = Edge.six();
        Edge.provincesAll(x, 1);
        x.province(0, 0);
        return x;
    }

    // ---- what is best

    /** Seven bribed ones and a marshal: only he, the eighth, has province 0 for state 0 in month 0. */
    private static ProvinceCards marshalLast() {
        ProvinceCards x = Edge.fresh();
        for (int i = 0; i < 7; i++) {
            x.envoy(3);
        }
        x.envoy(5);
        x.send(0, 0);
        x.send(1, 0);
        return x;
    }

    private static void bestLastOne() {
        due("best(0, 1)", marshalLast().best(0, 1), 7);
        ProvinceCards x = Edge.fresh();
        x.envoy(3);
        due("best(0, 1) where one is", x.best(0, 1), 0);
        // Whoever plays for state 0 in month 3 loses: to have nobody sent would be as good, but is no answer.
        due("best(0, 1) where none wins", Edge.sentAt(0, 0, 3).best(0, 1), 0);
    }

    /** Of these tables the 40th month makes another one the best. */
    private static void bestFewestAndMost() {
        due("best(0, 1)", marshalLast().best(0, 1), 7);
        ProvinceCards x = Edge.sent(0, 2);
        x.mix(9);
        due("best(0, 39)", x.best(0, 39), 0);
        due("best(0, 40)", x.best(0, 40), 2);
        x = Edge.sent(1, 0);
        x.mix(13);
        due("best(1, 39)", x.best(1, 39), 2);
        due("best(1, 40)", x.best(1, 40), 0);
    }

    private static void bestLeast() {
        ProvinceCards x = marshalLast();
        x.turn(6, 5);
        due("best(0, 1)", x.best(0, 1), 6);
        due("best(1, 40) of eight alike", Edge.eight().best(1, 40), 0);
        x.turn(3, 5);
        x.send(0, 7);
        due("best(0, 1)", x.best(0, 1), 3);
    }

    private static void bestBeyond() {
        for (int state : new int[] {LEAST, -1, 2, MOST}) {
            refused("best(" + state + ", 1)", BEYOND, x -> x.best(state, 1));
        }
        for (int n : new int[] {LEAST, -1, 0, 41, MOST}) {
            refused("best(0, " + n + ")", BEYOND, x -> x.best(0, n));
        }
    }

    private static void bestNone() {
        Edge.refused(Edge::fresh, "best(0, 1)", NONE, x -> x.best(0, 1));
        Edge.refused(Edge::fresh, "best(1, 40)", NONE, x -> x.best(1, 40));
    }

    /** The mix of most provinces of a state (or nobody's), asked of twins whose mix it is; of several the least. */
    private static int mixByTwins(Supplier<ProvinceCards> maker, int state, int n) {
        int best = 0;
        int most = -1;
        for (int v = 1; v <= 31; v += 2) {
            ProvinceCards x = maker.get();
            x.mix(v);
            x.months(n);
            if (Edge.owned(x, state) > most) {
                most = Edge.owned(x, state);
                best = v;
            }
        }
        return best;
    }

    private static void mixedFewestAndMost() {
        due("mixed(0, 39)", Edge.sentAt(0, 0, 1).mixed(0, 39), mixByTwins(() -> Edge.sentAt(0, 0, 1), 0, 39));
        due("mixed(0, 40)", Edge.sentAt(0, 0, 1).mixed(0, 40), mixByTwins(() -> Edge.sentAt(0, 0, 1), 0, 40));
        due("mixed(1, 1)", Edge.sent(0, 0).mixed(1, 1), mixByTwins(() -> Edge.sent(0, 0), 1, 1));
        due("mixed(0, 1)", Edge.sent(2, 2).mixed(0, 1), mixByTwins(() -> Edge.sent(2, 2), 0, 1));
    }

    private static void mixedGreatest() {
        due("mixed(0, 3)", Edge.sent(0, 0).mixed(0, 3), 31);
    }

    private static void mixedLeast() {
        due("mixed(0, 40)", Edge.fresh().mixed(0, 40), 1);
        due("mixed(1, 1)", Edge.sent(0, -1).mixed(1, 1), 1);
        ProvinceCards x = Edge.sent(-1, 0);
        x.mix(31);
        due("mixed(1, 40)", x.mixed(1, 40), 1);
        due("mixed(0, 2)", Edge.sent(0, 3).mixed(0, 2), mixByTwins(() -> Edge.sent(0, 3), 0, 2));
    }

    private static void mixedBeyond() {
        for (int state : new int[] {LEAST, -1, 2, MOST}) {
            refused("mixed(" + state + ", 1)", BEYOND, x -> x.mixed(state, 1));
        }
        for (int n : new int[] {LEAST, -1, 0, 41, MOST}) {
            refused("mixed(0, " + n + ")", BEYOND, x -> x.mixed(0, n));
        }
    }

    /** Month 0, mix 5: a miser draws with an envoy, and an envoy wins; mix 9: the 40th month makes another kind the best. */
    private static void kindFewestAndMost() {
        due("kind(1, 1)", Edge.sent(1, 0).kind(1, 1), 0);
        ProvinceCards x = Edge.sent(0, 2);
        x.mix(9);
        due("kind(0, 39)", x.kind(0, 39), 0);
        due("kind(0, 40)", x.kind(0, 40), 2);
    }

    private static void kindLastOne() {
        ProvinceCards x = Edge.pass(Edge.sent(1, 0), 74);
        due("kind(1, 14)", x.kind(1, 14), 5);
    }

    private static void kindLeast() {
        due("kind(5, 40) of one who isn't sent", Edge.sent(0, 1).kind(5, 40), 0);
        ProvinceCards x = Edge.sent(5, 1);
        x.won(5, 9999);
        due("kind(5, 40) of one who has won most already", x.kind(5, 40), 0);
        due("kind(5, 1)", Edge.sent(-1, 5).kind(5, 1), 0);
    }

    private static void kindBeyond() {
        for (int envoy : new int[] {LEAST, -1, 6, MOST}) {
            refused("kind(" + envoy + ", 1)", BEYOND, x -> x.kind(envoy, 1));
        }
        for (int n : new int[] {LEAST, -1, 0, 41, MOST}) {
            refused("kind(0, " + n + ")", BEYOND, x -> x.kind(0, n));
        }
    }

    /** A rest of 30 months gives state 0 most; of the other table one of 31 would, which isn't asked for. */
    private static void restFewestAndMost() {
        due("rest(0, 9)", Edge.sent(0, 1).rest(0, 9), 30);
        due("rest(0, 8)", Edge.sent(0, 1).rest(0, 8), 0);
        ProvinceCards x = Edge.six();
        pass31(x);
        due("provinces of state 0 behind 31 and 8", Integer.bitCount(x.then(0, 8, 0)), 6);
        due("provinces of state 0 behind 0 and 8", Integer.bitCount(Edge.sent(0, 1).then(0, 8, 0)), 5);
    }

    private static void pass31(ProvinceCards x) {
        x.months(31);
        x.send(0, 0);
        x.send(1, 1);
    }

    /** A month of rest frees the province that state 1 has, so no rest is better than none; nobody has any while both rest. */
    private static void restFreesProvinces() {
        ProvinceCards x = Edge.sent(-1, 0);
        x.province(0, 1);
        due("rest(1, 1)", x.rest(1, 1), 0);
        x = Edge.sent(0, -1);
        x.province(0, 0);
        due("rest(0, 1)", x.rest(0, 1), 0);
        x = Edge.six();
        Edge.provincesAll(x, 1);
        due("rest(1, 1) where all are its own", x.rest(1, 1), 0);
    }

    private static void restMonthsBehind() {
        for (int n : new int[] {1, 29, 30}) {
            due("rest(0, " + n + ")", Edge.sent(0, 0).rest(0, n), restByTwins(0, n));
            due("rest(1, " + n + ")", Edge.sent(0, 0).rest(1, n), restByTwins(1, n));
        }
    }

    private static int restByTwins(int state, int n) {
        int best = 0;
        int most = -1;
        for (int idle = 0; idle <= 30; idle++) {
            ProvinceCards x = Edge.sentAt(0, 0, idle);
            x.months(n);
            if (Edge.owned(x, state) > most) {
                most = Edge.owned(x, state);
                best = idle;
            }
        }
        return best;
    }

    private static void restLeast() {
        due("rest(0, 30) where nobody is", Edge.fresh().rest(0, 30), 0);
        due("rest(1, 8)", Edge.sent(-1, 3).rest(1, 8), 0);
        due("rest(0, 1)", Edge.sent(3, -1).rest(0, 1), 0);
    }

    private static void restBeyond() {
        for (int state : new int[] {LEAST, -1, 2, MOST}) {
            refused("rest(" + state + ", 1)", BEYOND, x -> x.rest(state, 1));
        }
        for (int n : new int[] {LEAST, -1, 0, 31, MOST}) {
            refused("rest(0, " + n + ")", BEYOND, x -> x.rest(0, n));
        }
    }

    private static void peaceFewestAndMost() {
        due("peace(39)", Edge.sent(0, 2).peace(39), 5);
        due("peace(40)", Edge.sent(0, 2).peace(40), 13);
        due("peace(40)", Edge.sent(0, 2).peace(40), mixByTwins(() -> Edge.sent(0, 2), -1, 40));
        due("peace(1)", Edge.sent(0, 0).peace(1), 13);
        due("peace(1)", Edge.sent(0, 0).peace(1), mixByTwins(() -> Edge.sent(0, 0), -1, 1));
    }

    private static void peaceLeast() {
        due("peace(1) where nobody is", Edge.fresh().peace(1), 1);
        ProvinceCards x = Edge.sent(0, -1);
        x.mix(31);
        due("peace(40)", x.peace(40), 1);
        due("peace(8)", Edge.sent(1, 1).peace(8), mixByTwins(() -> Edge.sent(1, 1), -1, 8));
    }

    private static void peaceBeyond() {
        for (int n : new int[] {LEAST, -1, 0, 41, MOST}) {
            refused("peace(" + n + ")", BEYOND, x -> x.peace(n));
        }
    }

    /** The hundredth month makes envoy 2 the first of these. */
    private static void championFewestAndMost() {
        ProvinceCards x = Edge.sent(0, 2);
        x.mix(23);
        due("champion(99)", x.champion(99), 0);
        due("champion(100)", x.champion(100), 2);
        x.won(5, 1);
        due("champion(0)", x.champion(0), 5);
        for (int envoy = 0; envoy < 8; envoy++) {
            x = Edge.eight();
            x.won(envoy, 1);
            due("champion(0)", x.champion(0), envoy);
        }
    }

    private static void championLeast() {
        due("champion(100) where nobody is sent", Edge.eight().champion(100), 0);
        ProvinceCards x = Edge.eight();
        x.won(6, 3);
        x.won(7, 3);
        due("champion(0)", x.champion(0), 6);
        x = Edge.sent(0, 1);
        x.won(0, 9999);
        x.won(5, 9999);
        due("champion(1)", x.champion(1), 0);
    }

    private static void championBeyond() {
        for (int n : new int[] {LEAST, -1, 101, MOST}) {
            refused("champion(" + n + ")", BEYOND, x -> x.champion(n));
        }
    }

    private static void championNone() {
        Edge.refused(Edge::fresh, "champion(0)", NONE, x -> x.champion(0));
        Edge.refused(Edge::fresh, "champion(100)", NONE, x -> x.champion(100));
    }

    // ---- the text

    /** A number has four bytes: fewer are its lowest ones, whatever stands above them. */
    private static void feedBytes() {
        ProvinceCards x = Edge.fresh();
        due("feed('mix ', 4)", x.feed(0x6d697820, 4), 4);
        due("feed('x31', 2)", x.feed(0x783331, 2), 6);
        due("spa()", x.spa(), 1);
        due("now(1)", x.now(1), 31);
        x.feed(0xff666f78, 3);
        x.feed(0xffffff3b, 1);
        x.feed(0x7f6d6978, 3);
        x.feed(0x80000037, 1);
        due("spa()", x.spa(), 2);
        due("now(1)", x.now(1), 7);
        x.feed(0x666f78ff, 4);
        due("spa() with a byte of 255", x.spa(), -4);
    }

    private static void feedCounts() {
        ProvinceCards x = Edge.fresh();
        due("feed(0, 1)", x.feed(0, 1), 1);
        due("feed(0, 4)", x.feed(0, 4), 5);
        due("feed(0, 3)", x.feed(0, 3), 8);
        due("feed(0, 2)", x.feed(0, 2), 10);
        due("count(1)", x.count(1), 10);
    }

    private static void feedBeyond() {
        for (int n : new int[] {LEAST, -1, 0, 5, MOST}) {
            refused("feed(32, " + n + ")", BEYOND, x -> x.feed(32, n));
        }
    }

    private static ProvinceCards taped(int bytes) {
        ProvinceCards x = Edge.fresh();
        Edge.feedText(x, "mix 31" + " ".repeat(bytes - 6));
        return x;
    }

    private static void feedFull() {
        for (int n = 1; n <= 4; n++) {
            int more = n;
            due("feed(0, " + n + ")", taped(120 - n).feed(0x20202020, n), 120);
            Edge.refused(() -> taped(121 - more), "feed(0, " + n + ")", Edge.FULL, x -> x.feed(0x20202020, more));
            Edge.refused(() -> taped(120), "feed(0, " + n + ")", Edge.FULL, x -> x.feed(0x20202020, more));
        }
    }

    private static void wipeHad() {
        ProvinceCards x = taped(120);
        due("wipe()", x.wipe(), 120);
        due("wipe()", x.wipe(), 0);
        due("count(1)", x.count(1), 0);
        due("spa()", x.spa(), -1);
        due("feed(32, 4)", x.feed(32, 4), 4);
        due("wipe()", x.wipe(), 4);
    }

    /** What no item names stays: the month, who is there and has won, the other provinces, and purses. */
    private static void spaAdds() {
        ProvinceCards x = Edge.rich();
        x.wipe();
        int purse = x.now(6);
        int set = x.then(0, 0, 0);
        int won = x.of(2, 1);
        due("spa()", Edge.spaOf(x, "mix 31"), 1);
        due("now(0)", x.now(0), 13);
        due("now(1)", x.now(1), 31);
        due("now(4)", x.now(4), 2);
        due("now(5)", x.now(5), 4);
        due("now(6)", x.now(6), purse);
        due("then(0, 0, 0)", x.then(0, 0, 0), set);
        due("of(2, 1)", x.of(2, 1), won);
        due("spa()", Edge.spaOf(x, "fox for 1;province 1 free"), 2);
        due("count(0)", x.count(0), 7);
        due("of(6, 0)", x.of(6, 0), 4);
        due("now(4)", x.now(4), 2);
        due("now(5)", x.now(5), 6);
        due("then(0, 0, 0)", x.then(0, 0, 0), set & ~2);
        due("now(0)", x.now(0), 13);
    }

    private static void spaEmptiesTape() {
        ProvinceCards x = taped(120);
        due("spa()", x.spa(), 1);
        due("count(1)", x.count(1), 0);
        due("spa()", x.spa(), -1);
        due("wipe()", x.wipe(), 0);
        due("mix 3, and nothing of the older tape", Edge.spaOf(x, "mix 3"), 1);
        due("now(1)", x.now(1), 3);
    }

    private static void spaItems() {
        due("one", Edge.spaOf(Edge.fresh(), "fox"), 1);
        due("eight", Edge.spaOf(Edge.fresh(), "fox;fox;fox;fox;fox;fox;fox;fox"), 8);
        ProvinceCards x = Edge.fresh();
        due("twenty-four", Edge.spaOf(x, "mix3;".repeat(23) + "mix9"), 24);
        due("now(1)", x.now(1), 9);
    }

    private static void spaFault() {
        due("at 0", Edge.spaOf(Edge.fresh(), ";"), -1);
        due("at 1", Edge.spaOf(Edge.fresh(), " ;"), -2);
        due("at 119", Edge.spaOf(Edge.fresh(), "mix 5" + " ".repeat(114) + "x"), -120);
        due("at 120", Edge.spaOf(Edge.fresh(), "mix 5" + " ".repeat(114) + ";"), -121);
    }

    private static void spaFaultChangesNothing() {
        String text = "mix 9;province 2 1;province 1 free;scholar for 0;marshal for 1;mix fox";
        ProvinceCards x = Edge.sent(0, 1);
        x.province(1, 0);
        due("spa()", Edge.spaOf(x, text), -68);
        due("count(0)", x.count(0), 6);
        due("now(1)", x.now(1), 5);
        due("now(4)", x.now(4), 0);
        due("now(5)", x.now(5), 1);
        due("whose(1)", x.whose(1), 0);
        due("whose(2)", x.whose(2), -1);
        due("count(1)", x.count(1), 0);
    }

    private static void spaFaultIsNoFinding() {
        ProvinceCards x = Edge.eight();
        due("spa()", x.spa(), -1);
        due("spa()", Edge.spaOf(x, "mix 8"), -5);
        due("spa()", Edge.spaOf(x, "fox"), -1);
        due("status(-1)", x.status(-1), 0);
    }

    // ---- sheets

    private static void sheetIsAll0() {
        for (int bits : new int[] {8, 16, 64}) {
            ProvinceCards x = Edge.fresh();
            due("sheet(0, " + bits + ", 40)", x.sheet(0, bits, 40), 40);
            x.write(0, 0, 7);
            x.write(0, 39, 7);
            due("sheet(0, " + bits + ", 1)", x.sheet(0, bits, 1), 1);
            due("write(0, 0, 0)", x.write(0, 0, 0), 0);
            due("sheet(0, " + bits + ", 40)", x.sheet(0, bits, 40), 40);
            due("write(0, 39, 0)", x.write(0, 39, 0), 0);
            due("sheet(0, " + bits + ", 0)", x.sheet(0, bits, 0), 0);
            due("lays(0): a sheet of none is there", x.lays(0), 0);
        }
    }

    private static void sheetMissing() {
        ProvinceCards x = Edge.rich();
        due("sheet(0, 0, 40)", x.sheet(0, 0, 40), 0);
        due("lays(0)", x.lays(0), MISSING);
        due("sheet(1, 0, 0)", x.sheet(1, 0, 0), 0);
        due("lays(1)", x.lays(1), MISSING);
        due("sheet(3, 0, 5) of one that is MISSING", x.sheet(3, 0, 5), 0);
        due("lays(2)", x.lays(2), 1);
    }

    private static void sheetBeyond() {
        for (int s : new int[] {LEAST, -1, 4, MOST}) {
            refused("sheet(" + s + ", 8, 1)", BEYOND, x -> x.sheet(s, 8, 1));
        }
        for (int bits : new int[] {LEAST, -8, -1, 1, 7, 9, 15, 17, 32, 63, 65, 128, MOST}) {
            refused("sheet(0, " + bits + ", 1)", BEYOND, x -> x.sheet(0, bits, 1));
        }
    }

    private static void sheetSize() {
        for (int bits : new int[] {0, 8, 16, 64}) {
            refused("sheet(0, " + bits + ", -1)", Edge.SIZE, x -> x.sheet(0, bits, -1));
            refused("sheet(0, " + bits + ", LEAST)", Edge.SIZE, x -> x.sheet(0, bits, LEAST));
        }
    }

    private static void sheetAbove40() {
        for (int bits : new int[] {0, 8, 16, 64}) {
            refused("sheet(0, " + bits + ", 41)", BEYOND, x -> x.sheet(0, bits, 41));
            refused("sheet(0, " + bits + ", MOST)", BEYOND, x -> x.sheet(0, bits, MOST));
        }
    }

    private static void writeWraps() {
        ProvinceCards x = Edge.fresh();
        x.sheet(0, 8, 1);
        x.sheet(1, 16, 1);
        x.sheet(2, 64, 1);
        long[] given = {127, 128, 255, 256, -128, -129, 32767, 32768, 65535, 65536, -32769, 1L << 32, Long.MAX_VALUE, Long.MIN_VALUE};
        long[] of8 = {127, -128, -1, 0, -128, 127, -1, 0, -1, 0, -1, 0, -1, 0};
        long[] of16 = {127, 128, 255, 256, -128, -129, 32767, -32768, -1, 0, 32767, 0, -1, 0};
        for (int i = 0; i < given.length; i++) {
            for (int s = 0; s < 3; s++) {
                x.write(s, 0, given[i]);
                due("write(" + s + ", 0) of " + given[i], x.write(s, 0, 0), s == 0 ? of8[i] : s == 1 ? of16[i] : given[i]);
            }
        }
    }

    private static void writeNoSheet() {
        for (int s : new int[] {LEAST, -1, 4, MOST}) {
            refused("write(" + s + ", 0, 1)", BEYOND, x -> x.write(s, 0, 1));
        }
    }

    private static void writeMissing() {
        refused("write(3, 0, 1)", MISSING, x -> x.write(3, 0, 1));
        refused("write(3, -1, 1)", MISSING, x -> x.write(3, -1, 1));
        refused("write(3, 40, 1)", MISSING, x -> x.write(3, 40, 1));
    }

    private static void writeNoNumber() {
        for (int i : new int[] {LEAST, -1, 3, 40, MOST}) {
            refused("write(0, " + i + ", 1)", BEYOND, x -> x.write(0, i, 1));
        }
        ProvinceCards x = Edge.fresh();
        x.sheet(0, 8, 0);
        due("write(0, 0, 1) to a sheet of none", x.write(0, 0, 1), BEYOND);
    }

    private static ProvinceCards numbered() {
        ProvinceCards x = Edge.fresh();
        x.sheet(0, 16, 6);
        x.sheet(1, 16, 4);
        for (int i = 0; i < 6; i++) {
            x.write(0, i, 100 + i);
        }
        return x;
    }

    private static void copyOverItself() {
        ProvinceCards x = numbered();
        due("copy(0, 0, 0, 1, 5)", x.copy(0, 0, 0, 1, 5), 5);
        Edge.numbersAre(x, 0, 100, 100, 101, 102, 103, 104);
        x = numbered();
        due("copy(0, 1, 0, 0, 5)", x.copy(0, 1, 0, 0, 5), 5);
        Edge.numbersAre(x, 0, 101, 102, 103, 104, 105, 105);
        x = numbered();
        due("copy(0, 0, 0, 0, 6)", x.copy(0, 0, 0, 0, 6), 6);
        Edge.numbersAre(x, 0, 100, 101, 102, 103, 104, 105);
        due("copy(0, 2, 1, 0, 4)", x.copy(0, 2, 1, 0, 4), 4);
        Edge.numbersAre(x, 1, 102, 103, 104, 105);
    }

    private static void copyNone() {
        ProvinceCards x = numbered();
        due("copy(0, 0, 1, 0, 0)", x.copy(0, 0, 1, 0, 0), 0);
        due("copy(0, 6, 1, 4, 0)", x.copy(0, 6, 1, 4, 0), 0);
        x.sheet(2, 16, 0);
        due("copy(2, 0, 0, 6, 0)", x.copy(2, 0, 0, 6, 0), 0);
        Edge.numbersAre(x, 0, 100, 101, 102, 103, 104, 105);
        Edge.numbersAre(x, 1, 0, 0, 0, 0);
    }

    private static void copyNoSheet() {
        for (int s : new int[] {LEAST, -1, 4, MOST}) {
            refused("copy(" + s + ", 0, 0, 0, 1)", BEYOND, x -> x.copy(s, 0, 0, 0, 1));
            refused("copy(0, 0, " + s + ", 0, 1)", BEYOND, x -> x.copy(0, 0, s, 0, 1));
            refused("copy(3, 0, " + s + ", 0, 1)", BEYOND, x -> x.copy(3, 0, s, 0, 1));
        }
    }

    private static void copyMissing() {
        refused("copy(0, 0, 3, 0, 0)", MISSING, x -> x.copy(0, 0, 3, 0, 0));
        refused("copy(3, 0, 0, 0, 0)", MISSING, x -> x.copy(3, 0, 0, 0, 0));
        refused("copy(3, 0, 3, 0, 0)", MISSING, x -> x.copy(3, 0, 3, 0, 0));
    }

    private static void copyKind() {
        refused("copy(0, 0, 1, 0, 1)", Edge.KIND, x -> x.copy(0, 0, 1, 0, 1));
        refused("copy(2, 0, 1, 0, 0)", Edge.KIND, x -> x.copy(2, 0, 1, 0, 0));
        refused("copy(0, 0, 2, 0, 9)", Edge.KIND, x -> x.copy(0, 0, 2, 0, 9));
    }

    private static void copyNotSoMany() {
        int[][] many = {{0, 0, 1, 0, 5}, {1, 0, 0, 0, 5}, {0, 3, 1, 0, 4}, {0, 0, 1, 1, 4}, {0, 7, 1, 0, 0}, {0, 0, 1, 5, 0},
            {0, 0, 1, 0, MOST}, {0, MOST, 1, 0, 1}, {0, 0, 1, MOST, 1}, {0, MOST, 1, MOST, MOST}, {0, 1, 0, 0, MOST}};
        for (int[] c : many) {
            Edge.refused(PromiseEdgesTest::numbered, "copy(" + c[0] + ", " + c[1] + ", " + c[2] + ", " + c[3] + ", " + c[4] + ")",
                BEYOND, x -> x.copy(c[0], c[1], c[2], c[3], c[4]));
        }
    }

    private static void copyBelow0() {
        for (int bad : new int[] {-1, LEAST}) {
            Edge.refused(PromiseEdgesTest::numbered, "copy(0, " + bad + ", 1, 0, 1)", BEYOND, x -> x.copy(0, bad, 1, 0, 1));
            Edge.refused(PromiseEdgesTest::numbered, "copy(0, 0, 1, " + bad + ", 1)", BEYOND, x -> x.copy(0, 0, 1, bad, 1));
            Edge.refused(PromiseEdgesTest::numbered, "copy(0, 0, 1, 0, " + bad + ")", BEYOND, x -> x.copy(0, 0, 1, 0, bad));
        }
        Edge.refused(PromiseEdgesTest::numbered, "copy(0, 3, 1, 3, -1)", BEYOND, x -> x.copy(0, 3, 1, 3, -1));
    }

    private static void laysLeavesOut() {
        ProvinceCards x = Edge.fresh();
        Edge.provincesAll(x, 1);
        x.sheet(0, 64, 8);
        long[] numbers = {-2, -1, 0, 1, 2, 1L << 32, Long.MAX_VALUE, Long.MIN_VALUE};
        int[] whose = {1, -1, 0, 1, 1, 1, 1, 1};
        for (int i = 0; i < 8; i++) {
            x.write(0, i, numbers[i]);
        }
        due("lays(0)", x.lays(0), 3);
        for (int p = 0; p < 8; p++) {
            due("whose(" + p + ")", x.whose(p), whose[p]);
        }
    }

    private static void laysEightAtMost() {
        ProvinceCards x = Edge.fresh();
        x.sheet(0, 8, 40);
        due("lays(0) of forty", x.lays(0), 8);
        due("owned", Edge.owned(x, 0), 8);
        x.sheet(0, 8, 9);
        x.write(0, 7, 9);
        due("lays(0) of nine", x.lays(0), 7);
        x.sheet(1, 16, 1);
        x.write(1, 0, 1);
        due("lays(1) of one", x.lays(1), 1);
        due("whose(0)", x.whose(0), 1);
        due("whose(1)", x.whose(1), 0);
        x.sheet(1, 16, 0);
        due("lays(1) of none", x.lays(1), 0);
        due("whose(0)", x.whose(0), 1);
    }

    private static void laysNoSheet() {
        for (int s : new int[] {LEAST, -1, 4, MOST}) {
            refused("lays(" + s + ")", BEYOND, x -> x.lays(s));
        }
    }

    private static void laysMissing() {
        refused("lays(3)", MISSING, x -> x.lays(3));
    }

    private static void bookFewestAndMost() {
        ProvinceCards x = Edge.sent(-1, 2);
        x.sheet(0, 16, 0);
        due("book(0, 1) of none", x.book(0, 1), 0);
        x.sheet(0, 16, 1);
        due("book(0, 1) of one", x.book(0, 1), 1);
        Edge.numbersAre(x, 0, 0);
        x.sheet(0, 64, 40);
        due("book(0, 1) of forty", x.book(0, 1), 40);
        Edge.numbersAre(x, 0, 0, 1, 3, 7, 15, 31, 63, 127, 255, 255);
        due("the last", x.write(0, 39, 0), 255);
    }

    private static void bookWraps() {
        ProvinceCards x = Edge.sent(-1, 2);
        x.sheet(0, 8, 9);
        x.book(0, 1);
        Edge.numbersAre(x, 0, 0, 1, 3, 7, 15, 31, 63, 127, -1);
    }

    private static void bookNoSheet() {
        for (int s : new int[] {LEAST, -1, 4, MOST}) {
            refused("book(" + s + ", 0)", BEYOND, x -> x.book(s, 0));
        }
    }

    private static void bookMissing() {
        refused("book(3, 0)", MISSING, x -> x.book(3, 0));
        refused("book(3, 2)", MISSING, x -> x.book(3, 2));
    }

    private static void bookNoState() {
        for (int state : new int[] {LEAST, -1, 2, MOST}) {
            refused("book(1, " + state + ")", BEYOND, x -> x.book(1, state));
        }
    }

    /** A sheet of none is told by all 6 times 16 pairs, and what can't be by none. */
    private static void readAllAndNone() {
        ProvinceCards x = Edge.sent(2, 4);
        x.sheet(0, 16, 0);
        due("read(0, 1, 4) of none", x.read(0, 1, 4), 96);
        x.sheet(0, 16, 1);
        due("read(0, 1, 4) of now alone", x.read(0, 1, 4), 96);
        x.write(0, 0, 1);
        due("read(0, 1, 4)", x.read(0, 1, 4), 0);
    }

    private static void readPairs() {
        for (int envoy : new int[] {0, 3, 5}) {
            ProvinceCards x = Edge.sent(0, 3);
            x.sheet(0, 16, 9);
            x.book(0, 0);
            due("read(0, 0, " + envoy + ")", x.read(0, 0, envoy), pairsByTwins(envoy));
        }
    }

    /** How many of the 6 times 16 twins have the sets of state 0 that an envoy against one bribed has, in 9 months. */
    private static int pairsByTwins(int envoy) {
        int pairs = 0;
        for (int i = 0; i < 96; i++) {
            ProvinceCards told = Edge.sent(0, 3);
            ProvinceCards twin = Edge.sent(0, 3);
            twin.turn(envoy, i / 16);
            twin.mix(2 * (i % 16) + 1);
            int same = 1;
            for (int n = 0; n < 9; n++) {
                same &= told.then(0, n, 0) == twin.then(0, n, 0) ? 1 : 0;
            }
            pairs += same;
        }
        return pairs;
    }

    /** Nobody is against state 1, so each pair makes it so, until the last number is another one. */
    private static void readJustSo() {
        ProvinceCards x = Edge.sent(-1, 2);
        x.sheet(0, 16, 40);
        x.book(0, 1);
        due("read(0, 1, 2)", x.read(0, 1, 2), 96);
        x.write(0, 39, 254);
        due("read(0, 1, 2)", x.read(0, 1, 2), 0);
        x.write(0, 39, 255 + 256);
        due("read(0, 1, 2)", x.read(0, 1, 2), 0);
        x.write(0, 39, 255);
        due("read(0, 1, 2)", x.read(0, 1, 2), 96);
        x.sheet(1, 8, 9);
        x.book(1, 1);
        due("read(1, 1, 2): -1 is no set", x.read(1, 1, 2), 0);
        x.sheet(1, 8, 8);
        x.book(1, 1);
        due("read(1, 1, 2)", x.read(1, 1, 2), 96);
    }

    private static void readNoSheet() {
        for (int s : new int[] {LEAST, -1, 4, MOST}) {
            refused("read(" + s + ", 0, 0)", BEYOND, x -> x.read(s, 0, 0));
        }
    }

    private static void readMissing() {
        refused("read(3, 0, 0)", MISSING, x -> x.read(3, 0, 0));
        refused("read(3, 2, 9)", MISSING, x -> x.read(3, 2, 9));
    }

    private static void readNoStateOrEnvoy() {
        for (int state : new int[] {LEAST, -1, 2, MOST}) {
            refused("read(0, " + state + ", 0)", BEYOND, x -> x.read(0, state, 0));
        }
        for (int envoy : new int[] {LEAST, -1, 6, MOST}) {
            refused("read(0, 0, " + envoy + ")", BEYOND, x -> x.read(0, 0, envoy));
        }
    }

    // ---- images

    private static void imageKeepsAll() {
        ProvinceCards x = Edge.sentAt(1, 2, 9);
        x.mix(31);
        x.province(7, 1);
        x.treasury(0, 99999);
        x.treasury(1, 0);
        x.won(5, 9999);
        due("image()", x.image(), 1);
        x.months(1);
        x.mix(1);
        x.province(7, 0);
        x.treasury(0, 1);
        x.treasury(1, 1);
        x.won(5, 0);
        x.turn(5, 0);
        x.send(0, -1);
        x.send(1, -1);
        x.envoy(3);
        x.undo();
        int[] now = {9, 31, 1, 1, 1, 2, 99999, 0};
        for (int what = 0; what < 8; what++) {
            due("now(" + what + ")", x.now(what), now[what]);
        }
        due("whose(7)", x.whose(7), 1);
        due("whose(1)", x.whose(1), -1);
        due("of(5, 0)", x.of(5, 0), 5);
        due("of(5, 1)", x.of(5, 1), 9999);
        due("of(6, 0)", x.of(6, 0), BEYOND);
    }

    private static void imageKeepsNoTape() {
        ProvinceCards x = Edge.fresh();
        x.feed(0x666f78, 3);
        x.sheet(0, 8, 1);
        x.image();
        x.feed(0x20, 1);
        x.write(0, 0, 5);
        x.undo();
        due("count(1)", x.count(1), 4);
        due("write(0, 0, 0): nor sheets", x.write(0, 0, 0), 5);
        x.wipe();
        x.undo();
        due("count(1)", x.count(1), 0);
    }

    private static void undoLatest() {
        ProvinceCards x = Edge.fresh();
        x.mix(7);
        x.image();
        x.mix(9);
        due("image() again", x.image(), 1);
        x.mix(11);
        x.undo();
        due("now(1)", x.now(1), 9);
        x.undo();
        due("now(1)", x.now(1), 9);
    }

    private static void undoStays() {
        ProvinceCards x = Edge.fresh();
        x.image();
        for (int i = 0; i < 3; i++) {
            x.mix(31);
            x.envoy(4);
            x.province(3, 1);
            due("undo()", x.undo(), 0);
            due("now(1)", x.now(1), 5);
            due("whose(3)", x.whose(3), -1);
        }
        due("tear()", x.tear(), 1);
    }

    private static void undoEnvoys() {
        ProvinceCards x = Edge.fresh();
        x.image();
        x.envoy(0);
        due("undo() to none", x.undo(), 0);
        x = Edge.eight();
        x.image();
        due("undo() to eight", x.undo(), 8);
    }

    private static void undoNone() {
        Edge.refused(Edge::six, "undo()", NONE, x -> x.undo());
        Edge.refused(PromiseEdgesTest::torn, "undo()", NONE, x -> x.undo());
    }

    private static ProvinceCards torn() {
        ProvinceCards x = Edge.rich();
        x.tear();
        return x;
    }

    private static void tearOnce() {
        ProvinceCards x = Edge.fresh();
        due("tear()", x.tear(), 0);
        x.image();
        x.image();
        due("tear()", x.tear(), 1);
        due("tear()", x.tear(), 0);
        due("undo()", x.undo(), NONE);
        x.image();
        due("tear()", x.tear(), 1);
        due("status(-1)", x.status(-1), 1);
    }

    private static void countNoneAndMost() {
        ProvinceCards x = Edge.fresh();
        int[] none = {0, 0, 8, 0};
        int[] most = {8, 120, 0, 79992};
        for (int what = 0; what < 4; what++) {
            due("count(" + what + ")", x.count(what), none[what]);
        }
        x = taped(120);
        for (int envoy = 0; envoy < 8; envoy++) {
            x.envoy(0);
            x.won(envoy, 9999);
        }
        Edge.provincesAll(x, 0);
        for (int what = 0; what < 4; what++) {
            due("count(" + what + ")", x.count(what), most[what]);
        }
    }

    private static void countBeyond() {
        for (int what : new int[] {LEAST, -1, 4, MOST}) {
            refused("count(" + what + ")", BEYOND, x -> x.count(what));
        }
    }

    private static void statusEach() {
        ProvinceCards x = Edge.eight();
        Edge.Act[] acts = {y -> y.mix(0), y -> y.envoy(0), y -> y.as(0, 5), y -> y.undo(), y -> y.tricks(), y -> y.lays(0),
            y -> y.sheet(0, 8, -1)};
        for (int which = 0; which < 7; which++) {
            for (int i = 0; i <= which; i++) {
                acts[which].on(x);
            }
        }
        for (int which = 0; which < 7; which++) {
            due("status(" + which + ")", x.status(which), which + 1);
        }
        due("status(-1)", x.status(-1), 28);
        due("status(-1) of a new one", Edge.fresh().status(-1), 0);
    }

    private static void statusStays() {
        ProvinceCards x = Edge.fresh();
        x.image();
        x.mix(0);
        x.tricks();
        x.undo();
        due("status(-1)", x.status(-1), 2);
        due("status(0)", x.status(0), 1);
        due("status(4)", x.status(4), 1);
    }

    private static void statusBeyond() {
        ProvinceCards x = Edge.fresh();
        int counted = 0;
        for (int which : new int[] {LEAST, -2, 7, MOST}) {
            due("status(" + which + ")", x.status(which), BEYOND);
            counted++;
            due("status(0)", x.status(0), counted);
            due("status(-1)", x.status(-1), counted);
        }
    }
}
