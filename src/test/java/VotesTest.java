import java.util.NoSuchElementException;

/** Promises 36 to 40. */
public final class VotesTest {
    private static final Class<IndexOutOfBoundsException> NOT_THERE = IndexOutOfBoundsException.class;
    private static final Class<IllegalArgumentException> RANGE = IllegalArgumentException.class;
    private static final Class<IllegalStateException> STATE = IllegalStateException.class;

    private VotesTest() {
    }

    public static void main(String[] args) {
        addVotes();
        addVotesRefuses();
        finish();
        finishCountsLostDeposits();
        votes();
        share();
        winner();
        Check.end();
    }

    /** On the polling day four papers stand in area 0, one in area 1; what is paid for the paper k is 10 * (k + 1). */
    static Nominator fiveStanding() {
        Nominator office = new Nominator();
        office.addArea(1, 10);
        office.addArea(1, 0);
        for (int k = 0; k < 5; k++) {
            int area = k < 4 ? 0 : 1;
            office.addVoter(area);
            Offices.file(office, area, k, "a");
            office.sign(k, k);
            office.pay(k, 10 * (k + 1));
        }
        office.pass(30);
        office.pass(10);
        return office;
    }

    private static void addVotes() {
        Nominator office = fiveStanding();
        Check.same("addVotes(0, 1)", office.addVotes(0, 1), 1);
        Check.same("addVotes(0, 10000)", office.addVotes(0, 10000), 10001);
        Check.same("addVotes(4, 7)", office.addVotes(4, 7), 7);
        Check.same("votes after addVotes", office.votes(0), 10001);
        office.finish(0);
        Check.same("addVotes in an area that is not finished", office.addVotes(4, 7), 14);
        office.pass(30);
        Check.same("addVotes after the polling day", office.addVotes(4, 1), 15);
    }

    private static void addVotesRefuses() {
        Check.refuses(VotesTest::fiveStanding, "addVotes(5, 0)", NOT_THERE, o -> o.addVotes(5, 0));
        Check.refuses(VotesTest::fiveStanding, "addVotes(-1, 1)", NOT_THERE, o -> o.addVotes(-1, 1));
        Check.refuses(VotesTest::fiveStanding, "addVotes(0, 0)", RANGE, o -> o.addVotes(0, 0));
        Check.refuses(VotesTest::fiveStanding, "addVotes(0, 10001)", RANGE, o -> o.addVotes(0, 10001));
        Check.refuses(VotesTest::fiveStanding, "addVotes(0, -1)", RANGE, o -> o.addVotes(0, -1));
        Check.refuses(() -> Offices.finished(fiveStanding(), 0), "addVotes(0, 0) after the end", RANGE,
                o -> o.addVotes(0, 0));
        Check.refuses(() -> Offices.finished(fiveStanding(), 0), "addVotes after the end", STATE,
                o -> o.addVotes(0, 1));
        Check.refuses(() -> Offices.later(Offices.closed(), 18), "addVotes before the polling day", STATE,
                o -> o.addVotes(0, 1));
        Check.refuses(Offices::pollingDay, "addVotes for a rejected paper", STATE, o -> o.addVotes(1, 1));
        Check.refuses(() -> Offices.later(Offices.dead(Offices.closed(), 0), 19), "addVotes for a dead candidate",
                STATE, o -> o.addVotes(0, 1));
        Check.refuses(() -> Offices.later(Offices.withdrawn(Offices.closed(), 0), 19),
                "addVotes for a withdrawn paper", STATE, o -> o.addVotes(0, 1));
        Check.same("addVotes for one that stands", Offices.pollingDay().addVotes(0, 1), 1);
    }

    private static void finish() {
        Check.same("finish without votes", fiveStanding().finish(0), 0);
        Check.same("finish without papers", Offices.finished(Offices.pollingDay(), 1).finish(0), 0);
        Check.refuses(VotesTest::fiveStanding, "finish(2)", NOT_THERE, o -> o.finish(2));
        Check.refuses(VotesTest::fiveStanding, "finish(-1)", NOT_THERE, o -> o.finish(-1));
        Check.refuses(() -> Offices.finished(fiveStanding(), 0), "finish twice", STATE, o -> o.finish(0));
        Check.refuses(() -> Offices.later(Offices.closed(), 18), "finish before the polling day", STATE,
                o -> o.finish(0));
        Check.same("finish in the other area", Offices.finished(fiveStanding(), 0).finish(1), 0);
    }

    private static void finishCountsLostDeposits() {
        Nominator office = fiveStanding();
        office.addVotes(0, 95);
        office.addVotes(1, 5);
        office.addVotes(4, 10000);
        Check.same("5 of 100 are enough, none are not", office.finish(0), 2);
        office = fiveStanding();
        office.addVotes(0, 96);
        office.addVotes(1, 5);
        Check.same("5 of 101 are not enough", office.finish(0), 3);
        office = Offices.readyToClose();
        Offices.file(office, 1, 6, "late");
        office.sign(4, 5);
        office.pass(21);
        office.withdraw(4);
        office.pass(19);
        office.addVotes(3, 1);
        Check.same("the lost deposit of a paper that does not stand", office.finish(1), 0);
        Check.same("it is lost", office.deposit(4), Nominator.LOST);
    }

    private static Nominator someVotes() {
        Nominator office = fiveStanding();
        office.addVotes(1, 2);
        office.addVotes(2, 5);
        office.addVotes(3, 5);
        return office;
    }

    private static void votes() {
        Check.asks(VotesTest::someVotes, "votes(2)", 5, o -> o.votes(2));
        Check.asks(VotesTest::someVotes, "votes(4)", 0, o -> o.votes(4));
        Check.asks(Offices::fourPapers, "votes of a new paper", 0, o -> o.votes(3));
        Check.refuses(VotesTest::someVotes, "votes(5)", NOT_THERE, o -> o.votes(5));
        Check.refuses(VotesTest::someVotes, "votes(-1)", NOT_THERE, o -> o.votes(-1));
    }

    private static void share() {
        Check.asks(VotesTest::someVotes, "share(1)", 2.0 / 12.0, o -> o.share(1));
        Check.asks(VotesTest::someVotes, "share(2)", 5.0 / 12.0, o -> o.share(2));
        Check.asks(VotesTest::someVotes, "share(0)", 0.0, o -> o.share(0));
        Check.refuses(VotesTest::someVotes, "share in an area without votes", ArithmeticException.class,
                o -> o.share(4));
        Check.refuses(VotesTest::someVotes, "share(5)", NOT_THERE, o -> o.share(5));
        Check.refuses(VotesTest::someVotes, "share(-1)", NOT_THERE, o -> o.share(-1));
        Nominator office = fiveStanding();
        office.addVotes(4, 9);
        Check.same("share of the only paper", office.share(4), 1.0);
    }

    private static void winner() {
        Check.asks(() -> Offices.finished(someVotes(), 0), "the lowest of two winners", 2, o -> o.winner(0));
        Check.asks(() -> Offices.finished(someVotes(), 1), "a winner without votes", 4, o -> o.winner(1));
        Check.asks(() -> Offices.finished(fiveStanding(), 0), "the lowest of four without votes", 0,
                o -> o.winner(0));
        Check.refuses(VotesTest::someVotes, "winner before the end", STATE, o -> o.winner(0));
        Check.refuses(() -> Offices.finished(someVotes(), 1), "winner before the end in the area", STATE,
                o -> o.winner(0));
        Check.refuses(VotesTest::someVotes, "winner(2)", NOT_THERE, o -> o.winner(2));
        Check.refuses(VotesTest::someVotes, "winner(-1)", NOT_THERE, o -> o.winner(-1));
        Nominator office = Offices.withdrawn(Offices.closed(), 0);
        office.pass(19);
        office.finish(0);
        Check.same("winner where no paper stands", Check.outcomeOf(() -> office.winner(0)), "NoSuchElementException");
        Check.refuses(Offices::pollingDay, "winner where the count goes on", STATE, o -> o.winner(0));
        Nominator rejected = Offices.pollingDay();
        rejected.finish(0);
        Check.same("a rejected paper does not win", rejected.winner(0), 0);
        Class<NoSuchElementException> none = NoSuchElementException.class;
        Check.refuses(() -> Offices.finished(Offices.later(Offices.dead(Offices.closed(), 0), 19), 0),
                "winner where the candidate is dead", none, o -> o.winner(0));
    }
}
