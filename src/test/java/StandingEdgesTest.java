import java.util.function.Supplier;

/**
 * The edges of who stands: "Acceptance" and "Standing" among the terms, and the promises 29 to 31. Each test tells its
 * sentence.
 */
public final class StandingEdgesTest {
    private static final Class<IndexOutOfBoundsException> NOT_THERE = IndexOutOfBoundsException.class;

    private StandingEdgesTest() {
    }

    public static void main(String[] args) {
        atLeastTheDeposit();
        atLeastTheSignatures();
        doubleOfTheSamePartyAlone();
        doubleOfALowerNumberAlone();
        doubleOfAnAcceptableOneAlone();
        doublesWithFirstAndLast();
        acceptanceIsFinal();
        acceptedCanBeWithdrawn();
        standsAsLongAsOpen();
        standsAfterTheClose();
        firstReasonWhileOpen();
        firstReasonAfterTheClose();
        reasonNumbers();
        replayOfNothing();
        replayChangesNothing();
        ballotSizes();
        ballotSizeNumbers();
        Check.end();
    }

    /** Both questions, which may not change anything. */
    private static void due(Supplier<Nominator> recipe, String what, int paper, int reason) {
        Check.asks(recipe, "reason, " + what, reason, o -> o.reason(paper));
        Check.asks(recipe, "reasonByReplay, " + what, reason, o -> o.reasonByReplay(paper));
        Nominator office = recipe.get();
        for (int k = 1; k <= 3; k++) {
            Check.same("reasonByReplay, time " + k + ", " + what, office.reasonByReplay(paper), reason);
        }
    }

    /** One area, one paper of the party 2, for which that is paid, and as many voters have signed. */
    private static Nominator paidAndSigned(int needed, int deposit, int signatures, int... payments) {
        Nominator office = new Nominator();
        office.addArea(needed, deposit);
        Offices.file(office, 0, 2, "a");
        for (int k = 0; k < signatures; k++) {
            office.addVoter(0);
            office.sign(0, k);
        }
        for (int payment : payments) {
            office.pay(0, payment);
        }
        return office;
    }

    /** "at least the deposit of its area has been paid for it" */
    private static void atLeastTheDeposit() {
        due(() -> paidAndSigned(1, 0, 1), "nothing paid, nothing needed", 0, Nominator.STANDS);
        due(() -> paidAndSigned(1, 1, 1), "nothing paid, 1 needed", 0, Nominator.DEPOSIT_SHORT);
        due(() -> paidAndSigned(1, 1, 1, 1), "1 paid, 1 needed", 0, Nominator.STANDS);
        due(() -> paidAndSigned(1, 1000, 1, 999), "999 paid, 1000 needed", 0, Nominator.DEPOSIT_SHORT);
        due(() -> paidAndSigned(1, 1000, 1, 1000), "1000 paid, 1000 needed", 0, Nominator.STANDS);
        due(() -> paidAndSigned(1, 1000, 1, 999, 1), "999 and 1 paid, 1000 needed", 0, Nominator.STANDS);
        due(() -> paidAndSigned(1, 1000, 1, 1000, 1), "1001 paid, 1000 needed", 0, Nominator.STANDS);
    }

    /** "at least as many of its signatures count as its area needs" */
    private static void atLeastTheSignatures() {
        due(() -> paidAndSigned(1, 0, 0), "0 of 1", 0, Nominator.TOO_FEW_SIGNATURES);
        due(() -> paidAndSigned(1, 0, 1), "1 of 1", 0, Nominator.STANDS);
        due(() -> paidAndSigned(10, 0, 9), "9 of 10", 0, Nominator.TOO_FEW_SIGNATURES);
        due(() -> paidAndSigned(10, 0, 10), "10 of 10", 0, Nominator.STANDS);
        due(() -> paidAndSigned(10, 0, 40), "40 of 10", 0, Nominator.STANDS);
        due(() -> Offices.struckOff(paidAndSigned(10, 0, 10), 9), "10 of 10, one struck off", 0,
                Nominator.TOO_FEW_SIGNATURES);
        due(() -> Offices.changed(paidAndSigned(10, 0, 9), o -> o.sign(0, 0)), "10 of 10, but one twice", 0,
                Nominator.TOO_FEW_SIGNATURES);
    }

    /** Two areas that need one signature; a paper for each pair of area and party, signed by a voter of its own. */
    private static Nominator standing(int... areasAndParties) {
        Nominator office = new Nominator();
        office.addArea(1, 0);
        office.addArea(1, 0);
        for (int k = 0; k < areasAndParties.length / 2; k++) {
            office.addVoter(areasAndParties[2 * k]);
            Offices.file(office, areasAndParties[2 * k], areasAndParties[2 * k + 1], "a");
            office.sign(k, k);
        }
        return office;
    }

    /** "A paper of a party is a double if a paper of the same party in the same area" */
    private static void doubleOfTheSamePartyAlone() {
        due(() -> standing(0, 3, 0, 3), "the same party, the same area", 1, Nominator.DOUBLE);
        due(() -> standing(0, 3, 1, 3), "the same party, another area", 1, Nominator.STANDS);
        due(() -> standing(0, 3, 0, 4), "another party, the same area", 1, Nominator.STANDS);
        due(() -> standing(0, -1, 0, -1), "two independents", 1, Nominator.STANDS);
        due(() -> standing(0, 0, 0, 0), "the party 0", 1, Nominator.DOUBLE);
        due(() -> standing(0, 7, 0, 7), "the party 7", 1, Nominator.DOUBLE);
        due(() -> standing(0, -1, 0, 0), "an independent and the party 0", 1, Nominator.STANDS);
    }

    /** "that has a lower number" */
    private static void doubleOfALowerNumberAlone() {
        due(() -> standing(0, 3, 0, 3), "the lower one", 0, Nominator.STANDS);
        due(() -> standing(0, 3, 0, 3), "the higher one", 1, Nominator.DOUBLE);
        due(() -> Offices.changed(standing(0, 3, 0, 3), o -> o.die(0)), "the lower one, dead", 0, Nominator.DEAD);
    }

    /** "is acceptable": a double is not, nor is a paper without signatures; one with a dead candidate is. */
    private static void doubleOfAnAcceptableOneAlone() {
        due(() -> standing(0, 3, 0, 3, 0, 3), "the third of three", 2, Nominator.DOUBLE);
        due(() -> Offices.struckOff(standing(0, 3, 0, 3, 0, 3), 0), "the second, the first is short", 1,
                Nominator.STANDS);
        due(() -> Offices.struckOff(standing(0, 3, 0, 3, 0, 3), 0), "the third, the first is short", 2,
                Nominator.DOUBLE);
        due(() -> Offices.withdrawn(standing(0, 3, 0, 3), 0), "the first is withdrawn", 1, Nominator.STANDS);
        due(() -> Offices.dead(standing(0, 3, 0, 3), 0), "the candidate of the first is dead", 1, Nominator.DOUBLE);
        due(() -> Offices.struckOff(standing(0, 3, 0, 3), 1), "the second is short, too", 1,
                Nominator.TOO_FEW_SIGNATURES);
    }

    /** The paper 11 is a double of the paper 0, whatever stands between them. */
    private static void doublesWithFirstAndLast() {
        Supplier<Nominator> recipe = () -> standing(0, 5, 0, 6, 1, 5, 0, -1, 1, 6, 1, 0, 1, 1, 1, 2, 1, 3, 1, 4, 1, 7,
                0, 5);
        due(recipe, "the paper 0", 0, Nominator.STANDS);
        due(recipe, "the paper 10", 10, Nominator.STANDS);
        due(recipe, "the paper 11", 11, Nominator.DOUBLE);
        due(() -> Offices.withdrawn(recipe.get(), 0), "the paper 11 without the paper 0", 11, Nominator.STANDS);
    }

    /** "the papers that are acceptable are accepted, and the others that are not withdrawn are rejected. ... final" */
    private static void acceptanceIsFinal() {
        due(() -> Offices.struckOff(Offices.closed(), 0), "accepted, a signer struck off", 0,
                Nominator.STANDS);
        due(() -> Offices.changed(Offices.closed(), o -> o.move(0, 1)), "accepted, a signer moved", 0,
                Nominator.STANDS);
        due(() -> Offices.withdrawn(Offices.closed(standing(0, 3, 0, 3)), 0), "a double, the first is withdrawn", 1,
                Nominator.DOUBLE);
        due(() -> Offices.dead(Offices.closed(standing(0, 3, 0, 3)), 0), "a double, the first is dead", 1,
                Nominator.DOUBLE);
        due(() -> Offices.later(Offices.closed(), 30), "rejected, a month later", 1, Nominator.TOO_FEW_SIGNATURES);
        Supplier<Nominator> struckOff = () -> Offices.closed(Offices.struckOff(Offices.readyToClose(), 1));
        due(() -> Offices.changed(struckOff.get(), o -> o.restore(1)), "rejected, a signer restored", 0,
                Nominator.TOO_FEW_SIGNATURES);
        due(() -> Offices.later(Offices.readyToClose(), 20), "acceptable on the closing day", 0, Nominator.STANDS);
        due(() -> Offices.struckOff(Offices.closingDay(), 1), "struck off on the closing day", 0,
                Nominator.TOO_FEW_SIGNATURES);
    }

    /** "except that an accepted paper can still be withdrawn" */
    private static void acceptedCanBeWithdrawn() {
        due(() -> Offices.withdrawn(Offices.closed(), 0), "accepted and withdrawn", 0, Nominator.WITHDRAWN);
        due(() -> Offices.later(Offices.withdrawn(Offices.closed(), 0), 60), "the same, long after", 0,
                Nominator.WITHDRAWN);
        due(() -> Offices.withdrawn(Offices.closed(), 0), "another accepted one", 3, Nominator.STANDS);
    }

    /** "As long as the office is open, a paper stands if it is acceptable and its candidate is alive." */
    private static void standsAsLongAsOpen() {
        due(Offices::readyToClose, "acceptable and alive", 0, Nominator.STANDS);
        due(() -> Offices.dead(Offices.readyToClose(), 0), "acceptable and dead", 0, Nominator.DEAD);
        due(Offices::readyToClose, "not acceptable and alive", 1, Nominator.TOO_FEW_SIGNATURES);
        due(() -> Offices.changed(Offices.dead(Offices.readyToClose(), 0), o -> Offices.replace(o, 0, "b")),
                "acceptable and replaced", 0, Nominator.STANDS);
    }

    /** "After the close, a paper stands if it is accepted and not withdrawn, and its candidate is alive." */
    private static void standsAfterTheClose() {
        due(Offices::closed, "accepted and alive", 0, Nominator.STANDS);
        due(() -> Offices.dead(Offices.closed(), 0), "accepted and dead", 0, Nominator.DEAD);
        due(() -> Offices.closed(Offices.dead(Offices.readyToClose(), 0)), "dead and then accepted", 0,
                Nominator.DEAD);
        due(() -> Offices.changed(Offices.dead(Offices.closed(), 0), o -> Offices.replace(o, 0, "b")),
                "accepted and replaced", 0, Nominator.STANDS);
        due(() -> Offices.withdrawn(Offices.closed(), 0), "accepted and withdrawn", 0, Nominator.WITHDRAWN);
        due(Offices::closed, "rejected", 1, Nominator.TOO_FEW_SIGNATURES);
    }

    /** A double with all other faults, but for those that a change takes away: paper 1 in the area 0 needs 5 and 1. */
    private static Nominator allFaults() {
        Nominator office = new Nominator();
        office.addArea(1, 5);
        Offices.addVoters(office, 0, 2);
        Offices.file(office, 0, 3, "a");
        Offices.file(office, 0, 3, "b");
        office.sign(0, 0);
        office.pay(0, 5);
        office.die(1);
        return office;
    }

    /** "the first of WITHDRAWN, DEPOSIT_SHORT, TOO_FEW_SIGNATURES, DOUBLE and DEAD that applies": each pair. */
    private static void firstReasonWhileOpen() {
        Supplier<Nominator> paid = () -> Offices.changed(allFaults(), o -> o.pay(1, 5));
        Supplier<Nominator> signed = () -> Offices.changed(allFaults(), o -> o.sign(1, 1));
        Supplier<Nominator> both = () -> Offices.changed(paid.get(), o -> o.sign(1, 1));
        due(() -> Offices.withdrawn(allFaults(), 1), "withdrawn and all others", 1, Nominator.WITHDRAWN);
        due(() -> Offices.withdrawn(both.get(), 1), "withdrawn and dead", 1, Nominator.WITHDRAWN);
        due(StandingEdgesTest::allFaults, "short, too few, dead", 1, Nominator.DEPOSIT_SHORT);
        due(signed, "short, double, dead", 1, Nominator.DEPOSIT_SHORT);
        due(() -> Offices.withdrawn(signed.get(), 0), "short and dead", 1, Nominator.DEPOSIT_SHORT);
        due(paid, "too few, double, dead", 1, Nominator.TOO_FEW_SIGNATURES);
        due(() -> Offices.withdrawn(paid.get(), 0), "too few and dead", 1, Nominator.TOO_FEW_SIGNATURES);
        due(both, "double and dead", 1, Nominator.DOUBLE);
        due(() -> Offices.withdrawn(both.get(), 0), "dead alone", 1, Nominator.DEAD);
        due(() -> Offices.changed(Offices.withdrawn(both.get(), 0), o -> Offices.replace(o, 1, "c")), "nothing", 1,
                Nominator.STANDS);
    }

    /** "WITHDRAWN if ...; otherwise, if the paper is rejected, the first of ... at the close; otherwise DEAD" */
    private static void firstReasonAfterTheClose() {
        due(() -> Offices.closed(Offices.withdrawn(allFaults(), 1)), "withdrawn before", 1, Nominator.WITHDRAWN);
        due(() -> Offices.closed(allFaults()), "all faults", 1, Nominator.DEPOSIT_SHORT);
        Supplier<Nominator> paid = () -> Offices.changed(allFaults(), o -> o.pay(1, 5));
        Supplier<Nominator> both = () -> Offices.changed(paid.get(), o -> o.sign(1, 1));
        due(() -> Offices.closed(paid.get()), "too few, double, dead", 1, Nominator.TOO_FEW_SIGNATURES);
        due(() -> Offices.closed(both.get()), "double and dead", 1, Nominator.DOUBLE);
        due(() -> Offices.closed(Offices.withdrawn(both.get(), 0)), "dead alone", 1, Nominator.DEAD);
        due(() -> Offices.withdrawn(Offices.closed(Offices.withdrawn(both.get(), 0)), 1), "dead, withdrawn late", 1,
                Nominator.WITHDRAWN);
    }

    /** "IndexOutOfBoundsException if there is no such paper" */
    private static void reasonNumbers() {
        Check.refuses(Offices::twoAreas, "reason without papers", NOT_THERE, o -> o.reason(0));
        Check.refuses(Offices::twoAreas, "reasonByReplay without papers", NOT_THERE, o -> o.reasonByReplay(0));
        for (int k : new int[] {-1, 12, Integer.MAX_VALUE, Integer.MIN_VALUE}) {
            Check.refuses(Offices::full, "reason(" + k + ")", NOT_THERE, o -> o.reason(k));
            Check.refuses(Offices::full, "reasonByReplay(" + k + ")", NOT_THERE, o -> o.reasonByReplay(k));
        }
        due(Offices::full, "the first of all there can be", 0, Nominator.STANDS);
        due(Offices::full, "the last of all there can be", 11, Nominator.DEPOSIT_SHORT);
    }

    /** "found by going through all events from the first one on", of which there may be hardly any. */
    private static void replayOfNothing() {
        Nominator office = new Nominator();
        office.addArea(1, 0);
        Offices.file(office, 0, 1, "a");
        Check.same("without signatures", office.reasonByReplay(0), Nominator.TOO_FEW_SIGNATURES);
        Check.same("a refused event", Check.outcomeOf(() -> office.sign(0, 0)), "IndexOutOfBoundsException");
        Check.same("after a refused event", office.reasonByReplay(0), Nominator.TOO_FEW_SIGNATURES);
        office.addVoter(0);
        office.sign(0, 0);
        Check.same("after a signature", office.reasonByReplay(0), Nominator.STANDS);
    }

    /** "The other calls are questions, which change nothing": one replay does not disturb the next. */
    private static void replayChangesNothing() {
        Nominator office = Offices.full();
        String before = reasonsOf(office);
        Check.same("the same once more", reasonsOf(office), before);
        office.withdraw(0);
        Check.same("after a withdrawal", office.reasonByReplay(0), Nominator.WITHDRAWN);
        office.pass(21);
        Check.same("after the close", office.reasonByReplay(5), office.reason(5));
        Check.same("after the close, withdrawn", office.reasonByReplay(0), Nominator.WITHDRAWN);
    }

    private static String reasonsOf(Nominator office) {
        StringBuilder text = new StringBuilder();
        for (int k = 0; k < 12; k++) {
            Check.same("the paper " + k, office.reasonByReplay(k), office.reason(k));
            text.append(office.reasonByReplay(k)).append(' ');
        }
        return text.toString();
    }

    private static Nominator twelveStanding() {
        return standing(0, 0, 0, 1, 0, 2, 0, 3, 0, 4, 0, 5, 0, 6, 0, 7, 0, -1, 0, -1, 0, -1, 0, -1);
    }

    /** "Returns the number of papers that stand in an area", from none to all. */
    private static void ballotSizes() {
        Check.asks(Offices::twoAreas, "ballotSize without papers", 0, o -> o.ballotSize(0));
        Check.asks(Offices::fourPapers, "ballotSize, none stands", 0, o -> o.ballotSize(0));
        Check.asks(StandingEdgesTest::twelveStanding, "ballotSize, all stand", 12, o -> o.ballotSize(0));
        Check.asks(StandingEdgesTest::twelveStanding, "ballotSize of the other area", 0, o -> o.ballotSize(1));
        Check.asks(() -> Offices.closed(twelveStanding()), "ballotSize after the close", 12, o -> o.ballotSize(0));
        Check.asks(() -> Offices.withdrawn(Offices.dead(Offices.closed(twelveStanding()), 11), 0),
                "ballotSize without two", 10, o -> o.ballotSize(0));
        Check.asks(() -> standing(0, 3, 0, 3), "ballotSize, a double", 1, o -> o.ballotSize(0));
        Check.asks(() -> Offices.dead(standing(0, 3, 0, 3), 0), "ballotSize, a double of the dead", 0,
                o -> o.ballotSize(0));
    }

    /** Of ballotSize: "IndexOutOfBoundsException if there is no such area" */
    private static void ballotSizeNumbers() {
        Check.refuses(Nominator::new, "ballotSize in a new office", NOT_THERE, o -> o.ballotSize(0));
        Check.refuses(Offices::full, "ballotSize(-1)", NOT_THERE, o -> o.ballotSize(-1));
        Check.asks(Offices::full, "ballotSize(0)", 1, o -> o.ballotSize(0));
        Check.asks(Offices::full, "ballotSize(4)", 0, o -> o.ballotSize(4));
        Check.refuses(Offices::full, "ballotSize(5)", NOT_THERE, o -> o.ballotSize(5));
    }
}
