/** Promises 29 to 31. */
public final class StandingTest {
    private static final Class<IndexOutOfBoundsException> NOT_THERE = IndexOutOfBoundsException.class;

    private StandingTest() {
    }

    public static void main(String[] args) {
        openReasons();
        doubles();
        closedReasons();
        verdictsAreFinal();
        replayOfEveryKindOfEvent();
        refusedNumbers();
        ballotSize();
        Check.end();
    }

    private static void due(String what, Nominator office, int paper, int reason) {
        Check.same("reason, " + what, office.reason(paper), reason);
        Check.same("reasonByReplay, " + what, office.reasonByReplay(paper), reason);
        Check.same("reasonByReplay once more, " + what, office.reasonByReplay(paper), reason);
    }

    private static void openReasons() {
        Nominator office = Offices.fourPapers();
        office.die(0);
        due("nothing paid, nothing signed, dead", office, 0, Nominator.DEPOSIT_SHORT);
        office.pay(0, 499);
        due("one too little", office, 0, Nominator.DEPOSIT_SHORT);
        office.pay(0, 1);
        due("no signature", office, 0, Nominator.TOO_FEW_SIGNATURES);
        office.sign(0, 0);
        due("one signature", office, 0, Nominator.TOO_FEW_SIGNATURES);
        office.sign(0, 1);
        due("dead", office, 0, Nominator.DEAD);
        Offices.replace(office, 0, "new");
        due("replaced", office, 0, Nominator.STANDS);
        office.withdraw(0);
        due("withdrawn", office, 0, Nominator.WITHDRAWN);
    }

    /** Four papers of the party 3 in area 1, where a paper needs one signature, and one of the party 3 in area 0. */
    private static Nominator manyDoubles() {
        Nominator office = new Nominator();
        office.addArea(1, 0);
        office.addArea(1, 0);
        Offices.addVoters(office, 1, 4);
        office.addVoter(0);
        Offices.file(office, 0, 3, "x");
        for (int k = 0; k < 4; k++) {
            Offices.file(office, 1, 3, "a");
        }
        office.sign(0, 4);
        for (int k = 0; k < 4; k++) {
            office.sign(k + 1, k);
        }
        return office;
    }

    private static void doubles() {
        Nominator office = manyDoubles();
        due("the same party in another area", office, 0, Nominator.STANDS);
        due("the first of the party", office, 1, Nominator.STANDS);
        due("the second", office, 2, Nominator.DOUBLE);
        due("the fourth", office, 4, Nominator.DOUBLE);
        office.die(1);
        due("the second after the death of the first", office, 2, Nominator.DOUBLE);
        office.die(2);
        due("a double who is dead", office, 2, Nominator.DOUBLE);
        office.strike(0);
        due("the first without signatures", office, 1, Nominator.TOO_FEW_SIGNATURES);
        due("the second is no double any more", office, 2, Nominator.DEAD);
        due("the third stays a double", office, 3, Nominator.DOUBLE);
        office.withdraw(2);
        due("the third after a withdrawal", office, 3, Nominator.STANDS);
        due("the fourth after a withdrawal", office, 4, Nominator.DOUBLE);
        due("independents are no doubles", twoOf(Nominator.INDEPENDENT), 1, Nominator.STANDS);
        due("the party 0 has doubles", twoOf(0), 1, Nominator.DOUBLE);
        due("the party 7 has doubles", twoOf(7), 1, Nominator.DOUBLE);
    }

    private static Nominator twoOf(int party) {
        Nominator office = new Nominator();
        office.addArea(1, 0);
        Offices.addVoters(office, 0, 2);
        for (int k = 0; k < 2; k++) {
            Offices.file(office, 0, party, "a");
            office.sign(k, k);
        }
        return office;
    }

    private static void closedReasons() {
        Nominator office = Offices.readyToClose();
        Offices.file(office, 1, 1, "twin");
        office.sign(4, 5);
        office.die(3);
        Offices.file(office, 0, 5, "gone");
        office.withdraw(5);
        office.pass(21);
        due("accepted", office, 0, Nominator.STANDS);
        due("too few at the close", office, 1, Nominator.TOO_FEW_SIGNATURES);
        due("short at the close", office, 2, Nominator.DEPOSIT_SHORT);
        due("accepted and dead", office, 3, Nominator.DEAD);
        due("double at the close", office, 4, Nominator.DOUBLE);
        due("withdrawn before the close", office, 5, Nominator.WITHDRAWN);
        Nominator dead = Offices.readyToClose();
        dead.die(1);
        dead.pass(21);
        due("rejected and dead", dead, 1, Nominator.TOO_FEW_SIGNATURES);
    }

    private static void verdictsAreFinal() {
        Nominator office = manyDoubles();
        office.pass(21);
        office.strike(0);
        due("accepted, a signer is struck off later", office, 1, Nominator.STANDS);
        office.withdraw(1);
        due("an accepted paper that is withdrawn", office, 1, Nominator.WITHDRAWN);
        due("the double of a paper that is withdrawn late", office, 2, Nominator.DOUBLE);
        office = Offices.readyToClose();
        office.strike(0);
        office.pass(21);
        office.restore(0);
        due("a signer is restored too late", office, 0, Nominator.TOO_FEW_SIGNATURES);
        office = Offices.readyToClose();
        office.strike(0);
        office.pass(20);
        due("the closing day with a signer struck off", office, 0, Nominator.TOO_FEW_SIGNATURES);
        office.restore(0);
        office.pass(30);
        due("a signer is restored on the closing day", office, 0, Nominator.STANDS);
    }

    private static void replayOfEveryKindOfEvent() {
        Nominator office = new Nominator();
        office.setCalendar(2, 5, 7);
        office.addArea(1, 10);
        office.addArea(2, 0);
        Offices.addVoters(office, 1, 3);
        office.move(0, 0);
        Offices.file(office, 0, 4, "a");
        Offices.file(office, 1, Nominator.INDEPENDENT, "b");
        office.sign(0, 0);
        office.sign(1, 1);
        office.sign(1, 2);
        office.pay(0, 10);
        office.strike(1);
        office.pass(2);
        due("on the closing day", office, 1, Nominator.TOO_FEW_SIGNATURES);
        office.restore(1);
        due("after a restoration", office, 1, Nominator.STANDS);
        office.pass(1);
        office.strike(1);
        due("after the close", office, 1, Nominator.STANDS);
        office.draw(5);
        office.die(0);
        due("after a death", office, 0, Nominator.DEAD);
        Offices.replace(office, 0, "c");
        due("after a replacement", office, 0, Nominator.STANDS);
        office.withdraw(1);
        due("after a withdrawal", office, 1, Nominator.WITHDRAWN);
        office.pass(4);
        office.addVotes(0, 3);
        office.finish(0);
        due("after the count", office, 0, Nominator.STANDS);
        due("after the count, withdrawn", office, 1, Nominator.WITHDRAWN);
    }

    private static void refusedNumbers() {
        Check.asks(Offices::closed, "reason(2)", Nominator.DEPOSIT_SHORT, o -> o.reason(2));
        Check.refuses(Offices::closed, "reason(4)", NOT_THERE, o -> o.reason(4));
        Check.refuses(Offices::closed, "reason(-1)", NOT_THERE, o -> o.reason(-1));
        Check.asks(Offices::closed, "reasonByReplay(2)", Nominator.DEPOSIT_SHORT, o -> o.reasonByReplay(2));
        Check.refuses(Offices::closed, "reasonByReplay(4)", NOT_THERE, o -> o.reasonByReplay(4));
        Check.refuses(Offices::closed, "reasonByReplay(-1)", NOT_THERE, o -> o.reasonByReplay(-1));
    }

    private static void ballotSize() {
        Check.asks(Offices::fourPapers, "no paper stands", 0, o -> o.ballotSize(0));
        Check.asks(Offices::readyToClose, "one stands while open", 1, o -> o.ballotSize(0));
        Check.asks(Offices::closed, "one stands after the close", 1, o -> o.ballotSize(1));
        Check.asks(() -> Offices.dead(Offices.closed(), 0), "a dead candidate does not stand", 0,
                o -> o.ballotSize(0));
        Check.asks(() -> Offices.withdrawn(Offices.closed(), 3), "a withdrawn paper does not stand", 0,
                o -> o.ballotSize(1));
        Check.asks(BallotsTest::sixNames, "six stand", 6, o -> o.ballotSize(0));
        Check.refuses(Offices::closed, "ballotSize(2)", NOT_THERE, o -> o.ballotSize(2));
        Check.refuses(Offices::closed, "ballotSize(-1)", NOT_THERE, o -> o.ballotSize(-1));
    }
}
