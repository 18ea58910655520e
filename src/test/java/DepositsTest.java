/** Promises 41 to 45. */
public final class DepositsTest {
    private static final Class<IndexOutOfBoundsException> NOT_THERE = IndexOutOfBoundsException.class;

    private DepositsTest() {
    }

    public static void main(String[] args) {
        depositBeforePolling();
        depositOfTheDead();
        depositAfterTheCount();
        paid();
        sums();
        lostShare();
        Check.end();
    }

    private static void depositBeforePolling() {
        Check.asks(Offices::readyToClose, "deposit while open", Nominator.HELD, o -> o.deposit(0));
        Check.asks(() -> Offices.withdrawn(Offices.readyToClose(), 0), "withdrawn while open", Nominator.RETURNED,
                o -> o.deposit(0));
        Check.asks(() -> Offices.later(Offices.withdrawn(Offices.readyToClose(), 0), 30), "withdrawn while open, later",
                Nominator.RETURNED, o -> o.deposit(0));
        Check.asks(() -> Offices.withdrawn(Offices.later(Offices.readyToClose(), 20), 0),
                "withdrawn on the closing day", Nominator.RETURNED, o -> o.deposit(0));
        Check.asks(() -> Offices.withdrawn(Offices.closed(), 0), "withdrawn later", Nominator.LOST,
                o -> o.deposit(0));
        Check.asks(() -> Offices.later(Offices.readyToClose(), 20), "the closing day", Nominator.HELD,
                o -> o.deposit(1));
        Check.asks(Offices::closed, "rejected", Nominator.RETURNED, o -> o.deposit(1));
        Check.asks(Offices::closed, "rejected because of the deposit", Nominator.RETURNED, o -> o.deposit(2));
        Check.asks(Offices::closed, "accepted", Nominator.HELD, o -> o.deposit(0));
        Check.refuses(Offices::closed, "deposit(4)", NOT_THERE, o -> o.deposit(4));
        Check.refuses(Offices::closed, "deposit(-1)", NOT_THERE, o -> o.deposit(-1));
    }

    private static void depositOfTheDead() {
        Check.asks(() -> Offices.dead(Offices.readyToClose(), 2), "dead while open", Nominator.HELD,
                o -> o.deposit(2));
        Check.asks(() -> Offices.dead(Offices.closed(), 0), "dead and replaceable", Nominator.HELD,
                o -> o.deposit(0));
        Check.asks(() -> Offices.later(Offices.dead(Offices.closed(), 0), 5), "dead and not replaceable",
                Nominator.RETURNED, o -> o.deposit(0));
        Check.asks(() -> Offices.dead(Offices.afterChanges(), 0), "dead after the changes", Nominator.RETURNED,
                o -> o.deposit(0));
        Check.asks(() -> Offices.later(Offices.dead(Offices.readyToClose(), 1), 21), "dead and rejected",
                Nominator.RETURNED, o -> o.deposit(1));
        Check.asks(() -> Offices.withdrawn(Offices.dead(Offices.closed(), 0), 0), "dead and withdrawn",
                Nominator.LOST, o -> o.deposit(0));
        Nominator office = Offices.dead(Offices.closed(), 0);
        Offices.replace(office, 0, "new");
        office.pass(19);
        Check.same("replaced", office.deposit(0), Nominator.HELD);
    }

    /** In area 0 the papers have 190, 10, 1 and 0 votes; in area 1 the paper has none, and the count goes on. */
    private static Nominator counted() {
        Nominator office = VotesTest.fiveStanding();
        office.addVotes(0, 190);
        office.addVotes(1, 9);
        office.addVotes(1, 1);
        office.addVotes(2, 1);
        return Offices.finished(office, 0);
    }

    private static void depositAfterTheCount() {
        Check.asks(DepositsTest::counted, "190 of 201", Nominator.RETURNED, o -> o.deposit(0));
        Check.asks(DepositsTest::counted, "10 of 201", Nominator.LOST, o -> o.deposit(1));
        Check.asks(DepositsTest::counted, "0 of 201", Nominator.LOST, o -> o.deposit(3));
        Check.asks(DepositsTest::counted, "not finished", Nominator.HELD, o -> o.deposit(4));
        Check.asks(() -> Offices.finished(counted(), 1), "no votes at all", Nominator.RETURNED, o -> o.deposit(4));
        Nominator office = VotesTest.fiveStanding();
        office.addVotes(0, 190);
        office.addVotes(1, 10);
        office.finish(0);
        Check.same("10 of 200", office.deposit(1), Nominator.RETURNED);
        office = Offices.finished(Offices.pollingDay(), 0);
        Check.same("rejected, after the count", office.deposit(1), Nominator.RETURNED);
    }

    private static void paid() {
        Check.asks(Offices::fourPapers, "paid for a new paper", 0, o -> o.paid(0));
        Check.asks(Offices::readyToClose, "paid", 499, o -> o.paid(2));
        Check.asks(Offices::closed, "paid, returned", 499, o -> o.paid(2));
        Check.asks(() -> Offices.withdrawn(Offices.closed(), 0), "paid, lost", 500, o -> o.paid(0));
        Check.refuses(Offices::fourPapers, "paid(4)", NOT_THERE, o -> o.paid(4));
        Check.refuses(Offices::fourPapers, "paid(-1)", NOT_THERE, o -> o.paid(-1));
    }

    private static void sums() {
        Check.asks(Offices::twoAreas, "nothing held", 0, o -> o.sumHeld());
        Check.asks(Offices::readyToClose, "held while open", 1499, o -> o.sumHeld());
        Check.asks(Offices::closed, "held after the close", 500, o -> o.sumHeld());
        Check.asks(DepositsTest::counted, "held in an area that is not finished", 50, o -> o.sumHeld());
        Check.asks(Offices::twoAreas, "nothing lost", 0, o -> o.sumLost());
        Check.asks(Offices::closed, "nothing lost after the close", 0, o -> o.sumLost());
        Check.asks(DepositsTest::counted, "lost after the count", 90, o -> o.sumLost());
        Nominator office = Offices.withdrawn(Offices.closed(), 0);
        Check.same("lost by a withdrawal", office.sumLost(), 500);
        Check.same("held after a withdrawal", office.sumHeld(), 0);
    }

    private static void lostShare() {
        Check.asks(DepositsTest::counted, "lostShare after the count", 90f / 150f, o -> o.lostShare());
        Check.asks(Offices::closed, "lostShare, nothing lost", 0f, o -> o.lostShare());
        Check.asks(() -> Offices.withdrawn(Offices.closed(), 0), "lostShare with returned deposits", 500f / 1499f,
                o -> o.lostShare());
        Nominator office = Offices.fourPapers();
        office.pay(0, 5);
        Check.same("lostShare, paid for the paper 0 alone", office.lostShare(), 0f);
        Check.refuses(Offices::fourPapers, "lostShare, nothing paid", ArithmeticException.class, o -> o.lostShare());
        Check.refuses(Nominator::new, "lostShare of a new office", ArithmeticException.class, o -> o.lostShare());
    }
}
