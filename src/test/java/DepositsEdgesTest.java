/** The edges of deposits: "Deposits" among the terms, and the promises 41 to 45. Each test tells its sentence. */
public final class DepositsEdgesTest {
    private static final Class<IndexOutOfBoundsException> NOT_THERE = IndexOutOfBoundsException.class;
    private static final Class<ArithmeticException> NOTHING_PAID = ArithmeticException.class;

    private DepositsEdgesTest() {
    }

    public static void main(String[] args) {
        withdrawnWhileOpen();
        withdrawnLater();
        heldWhileOpen();
        returnedIfRejected();
        deadHeldIfReplaceable();
        heldUntilTheEnd();
        lostBelowOneOfTwenty();
        votesOfTheAreaAlone();
        firstRuleApplies();
        depositNumbers();
        paidStaysTheSame();
        sumsOfNothing();
        sumsOfSome();
        lostShareOfNothing();
        lostShareOfSome();
        lostShareOfAll();
        Check.end();
    }

    /** "If the paper was withdrawn while the office was open, it is returned" */
    private static void withdrawnWhileOpen() {
        Check.asks(() -> Offices.withdrawn(Offices.readyToClose(), 0), "on day 0", Nominator.RETURNED,
                o -> o.deposit(0));
        Check.asks(() -> Offices.withdrawn(Offices.closingDay(), 0), "on the closing day", Nominator.RETURNED,
                o -> o.deposit(0));
        Check.asks(() -> Offices.later(Offices.withdrawn(Offices.closingDay(), 0), 1), "on the closing day, yesterday",
                Nominator.RETURNED, o -> o.deposit(0));
        Check.asks(() -> Offices.later(Offices.withdrawn(Offices.readyToClose(), 0), 99), "long ago",
                Nominator.RETURNED, o -> o.deposit(0));
    }

    /** "if the paper was withdrawn later, it is lost" */
    private static void withdrawnLater() {
        Check.asks(() -> Offices.withdrawn(Offices.closed(), 0), "on the day after the close", Nominator.LOST,
                o -> o.deposit(0));
        Check.asks(() -> Offices.withdrawn(Offices.lastDayForChanges(), 0), "on the last day for changes",
                Nominator.LOST, o -> o.deposit(0));
        Check.asks(() -> Offices.finished(Offices.pollingDay(Offices.withdrawn(Offices.closed(), 0)), 0),
                "withdrawn late, after the count", Nominator.LOST, o -> o.deposit(0));
    }

    /** "If the office is open, it is held." */
    private static void heldWhileOpen() {
        Check.asks(Offices::readyToClose, "on day 0", Nominator.HELD, o -> o.deposit(1));
        Check.asks(Offices::closingDay, "on the closing day", Nominator.HELD, o -> o.deposit(1));
        Check.asks(Offices::closed, "on the day after", Nominator.RETURNED, o -> o.deposit(1));
        Check.asks(() -> Offices.dead(Offices.closingDay(), 2), "of a dead independent", Nominator.HELD,
                o -> o.deposit(2));
        Check.asks(Offices::fourPapers, "of a paper for which nothing is paid", Nominator.HELD, o -> o.deposit(3));
    }

    /** "If the paper is rejected, it is returned." */
    private static void returnedIfRejected() {
        Check.asks(Offices::closed, "for the signatures", Nominator.RETURNED, o -> o.deposit(1));
        Check.asks(Offices::closed, "for the deposit", Nominator.RETURNED, o -> o.deposit(2));
        Check.asks(() -> counted(190, 11), "after the count, without votes", Nominator.RETURNED, o -> o.deposit(2));
        Check.asks(() -> Offices.closed(Offices.dead(Offices.readyToClose(), 1)), "rejected and dead",
                Nominator.RETURNED, o -> o.deposit(1));
    }

    /** "If the candidate is dead, it is held if the candidate is replaceable, and otherwise returned." */
    private static void deadHeldIfReplaceable() {
        Check.asks(() -> Offices.dead(Offices.closed(), 0), "replaceable", Nominator.HELD, o -> o.deposit(0));
        Check.asks(() -> Offices.later(Offices.dead(Offices.closed(), 0), 4), "on the last day for changes",
                Nominator.HELD, o -> o.deposit(0));
        Check.asks(() -> Offices.later(Offices.dead(Offices.closed(), 0), 5), "on the day after",
                Nominator.RETURNED, o -> o.deposit(0));
        Check.asks(() -> Offices.dead(Offices.changed(Offices.closed(), o -> replaceTwice(o)), 0), "replaced twice",
                Nominator.RETURNED, o -> o.deposit(0));
        Check.asks(() -> Offices.changed(Offices.dead(Offices.closed(), 0), o -> Offices.replace(o, 0, "b")),
                "replaced", Nominator.HELD, o -> o.deposit(0));
        Check.asks(() -> Offices.finished(Offices.pollingDay(Offices.dead(Offices.closed(), 0)), 0),
                "dead, after the count", Nominator.RETURNED, o -> o.deposit(0));
    }

    private static void replaceTwice(Nominator office) {
        office.die(0);
        Offices.replace(office, 0, "b");
        office.die(0);
        Offices.replace(office, 0, "c");
    }

    /** "If the counting in the area is not finished, it is held." */
    private static void heldUntilTheEnd() {
        Check.asks(Offices::closed, "on the day after the close", Nominator.HELD, o -> o.deposit(0));
        Check.asks(Offices::pollingDay, "on the polling day", Nominator.HELD, o -> o.deposit(0));
        Check.asks(() -> Offices.changed(VotesEdgesTest.voted(100, 0), o -> o.addVotes(0, 1)),
                "without votes, not finished", Nominator.HELD, o -> o.deposit(1));
        Check.asks(() -> Offices.finished(Offices.pollingDay(), 1), "another area is finished", Nominator.HELD,
                o -> o.deposit(0));
        Check.asks(() -> Offices.finished(Offices.pollingDay(), 0), "this area is finished", Nominator.RETURNED,
                o -> o.deposit(0));
    }

    /** The papers 0 and 1 stand and have so many votes, the paper 2 is rejected; the count is finished. */
    private static Nominator counted(int first, int second) {
        Nominator office = new Nominator();
        office.addArea(1, 10);
        Offices.addVoters(office, 0, 3);
        for (int k = 0; k < 3; k++) {
            Offices.file(office, 0, k, "a");
            office.sign(k, k);
            office.pay(k, k < 2 ? 10 + k : 9);
        }
        Offices.later(office, 40);
        addVotes(office, 0, first);
        addVotes(office, 1, second);
        return Offices.finished(office, 0);
    }

    private static void addVotes(Nominator office, int paper, int votes) {
        if (votes > 0) {
            office.addVotes(paper, votes);
        }
    }

    /** "If 20 times the votes of the paper are less than the votes of all papers of the area together, it is lost." */
    private static void lostBelowOneOfTwenty() {
        int[][] returned = {{0, 0}, {0, 1}, {19, 1}, {18, 1}, {95, 5}, {190, 10}, {9500, 500}, {1, 1}};
        for (int[] votes : returned) {
            Check.asks(() -> counted(votes[0], votes[1]), votes[1] + " against " + votes[0], Nominator.RETURNED,
                    o -> o.deposit(1));
        }
        int[][] lost = {{1, 0}, {20, 1}, {96, 5}, {191, 10}, {9501, 500}, {10000, 0}, {10000, 526}};
        for (int[] votes : lost) {
            Check.asks(() -> counted(votes[0], votes[1]), votes[1] + " against " + votes[0], Nominator.LOST,
                    o -> o.deposit(1));
        }
        Check.asks(() -> counted(10000, 527), "527 against 10000", Nominator.RETURNED, o -> o.deposit(1));
        Check.asks(() -> counted(20, 1), "the other one", Nominator.RETURNED, o -> o.deposit(0));
    }

    /** "the votes of all papers of the area together": those of another area do not matter. */
    private static void votesOfTheAreaAlone() {
        Nominator office = Offices.pollingDay();
        office.addVotes(0, 1);
        office.addVotes(3, 10000);
        office.finish(0);
        office.finish(1);
        Check.same("one vote of one", office.deposit(0), Nominator.RETURNED);
        Check.same("10000 votes of 10000", office.deposit(3), Nominator.RETURNED);
    }

    /** "held, returned or lost, by the first of these rules that applies" */
    private static void firstRuleApplies() {
        Check.asks(() -> Offices.withdrawn(Offices.dead(Offices.readyToClose(), 0), 0), "withdrawn, open, dead",
                Nominator.RETURNED, o -> o.deposit(0));
        Check.asks(() -> Offices.withdrawn(Offices.dead(Offices.closed(), 0), 0), "withdrawn late, dead",
                Nominator.LOST, o -> o.deposit(0));
        Check.asks(() -> Offices.dead(Offices.readyToClose(), 2), "open, dead, not replaceable", Nominator.HELD,
                o -> o.deposit(2));
        Check.asks(() -> Offices.pollingDay(Offices.dead(Offices.afterChanges(), 0)), "dead, not finished",
                Nominator.RETURNED, o -> o.deposit(0));
        Check.asks(() -> Offices.pollingDay(Offices.closed()), "rejected, not finished", Nominator.RETURNED,
                o -> o.deposit(1));
        Check.asks(DepositsEdgesTest::deadAndOutvoted, "dead, without votes, finished", Nominator.RETURNED,
                o -> o.deposit(1));
    }

    /** The paper 0 has all votes, the candidate of the paper 1 is dead; the count is finished. */
    private static Nominator deadAndOutvoted() {
        Nominator office = Offices.standing(0, 1);
        Offices.later(office, 39);
        office.die(1);
        office.pass(1);
        office.addVotes(0, 100);
        return Offices.finished(office, 0);
    }

    /** "IndexOutOfBoundsException if there is no such paper" */
    private static void depositNumbers() {
        Check.refuses(Nominator::new, "deposit in a new office", NOT_THERE, o -> o.deposit(0));
        Check.refuses(Nominator::new, "paid in a new office", NOT_THERE, o -> o.paid(0));
        for (int k : new int[] {-1, 12, Integer.MAX_VALUE, Integer.MIN_VALUE}) {
            Check.refuses(Offices::full, "deposit(" + k + ")", NOT_THERE, o -> o.deposit(k));
            Check.refuses(Offices::full, "paid(" + k + ")", NOT_THERE, o -> o.paid(k));
        }
        Check.asks(Offices::full, "deposit(11)", Nominator.HELD, o -> o.deposit(11));
        Check.asks(() -> Offices.changed(Offices.full(), o -> o.pay(11, 7)), "paid(11)", 7, o -> o.paid(11));
    }

    /** Of paid: "this stays the same when the deposit is returned or lost" */
    private static void paidStaysTheSame() {
        Check.asks(Offices::fourPapers, "nothing paid", 0, o -> o.paid(0));
        Check.asks(Offices::readyToClose, "held", 500, o -> o.paid(0));
        Check.asks(() -> Offices.withdrawn(Offices.readyToClose(), 0), "returned", 500, o -> o.paid(0));
        Check.asks(() -> Offices.withdrawn(Offices.closed(), 0), "lost", 500, o -> o.paid(0));
        Check.asks(Offices::closed, "rejected", 499, o -> o.paid(2));
        Check.asks(() -> counted(100, 0), "lost after the count", 11, o -> o.paid(1));
    }

    /** "Returns the sum of the deposits that are held", "that are lost", where there are none. */
    private static void sumsOfNothing() {
        Check.asks(Nominator::new, "sumHeld of a new office", 0, o -> o.sumHeld());
        Check.asks(Nominator::new, "sumLost of a new office", 0, o -> o.sumLost());
        Check.asks(Offices::fourPapers, "sumHeld, nothing paid", 0, o -> o.sumHeld());
        Check.asks(Offices::fourPapers, "sumLost, nothing paid", 0, o -> o.sumLost());
        Check.asks(() -> counted(1, 1), "sumHeld after the count", 0, o -> o.sumHeld());
        Check.asks(() -> counted(1, 1), "sumLost after the count", 0, o -> o.sumLost());
    }

    /** The same, where there are some. */
    private static void sumsOfSome() {
        Check.asks(Offices::closingDay, "sumHeld on the closing day", 1499, o -> o.sumHeld());
        Check.asks(Offices::closed, "sumHeld on the day after", 500, o -> o.sumHeld());
        Check.asks(() -> Offices.withdrawn(Offices.closed(), 0), "sumHeld, the only one withdrawn", 0,
                o -> o.sumHeld());
        Check.asks(() -> Offices.withdrawn(Offices.closed(), 0), "sumLost, the only one withdrawn", 500,
                o -> o.sumLost());
        Check.asks(() -> counted(100, 1), "sumLost after the count", 11, o -> o.sumLost());
        Check.asks(() -> Offices.changed(Offices.full(), o -> payForAll(o)), "sumHeld of twelve papers", 78,
                o -> o.sumHeld());
    }

    /** So much as its number and one for each paper. */
    private static void payForAll(Nominator office) {
        for (int k = 0; k < 12; k++) {
            office.pay(k, k + 1);
        }
    }

    /** "ArithmeticException if nothing has been paid" */
    private static void lostShareOfNothing() {
        Check.refuses(Nominator::new, "lostShare of a new office", NOTHING_PAID, o -> o.lostShare());
        Check.refuses(Offices::fourPapers, "lostShare, nothing paid", NOTHING_PAID, o -> o.lostShare());
        Check.refuses(() -> Offices.closed(Offices.fourPapers()), "lostShare after the close", NOTHING_PAID,
                o -> o.lostShare());
        Check.asks(() -> Offices.changed(Offices.fourPapers(), o -> o.pay(2, 1)), "lostShare, 1 paid", 0f,
                o -> o.lostShare());
    }

    /** "divided by the sum of all deposits, both converted to float" */
    private static void lostShareOfSome() {
        Check.asks(Offices::closed, "nothing lost", 0f, o -> o.lostShare());
        Check.asks(() -> Offices.withdrawn(Offices.closed(), 0), "500 of 1499", 500f / 1499f, o -> o.lostShare());
        Check.asks(() -> counted(100, 1), "11 of 30", 11f / 30f, o -> o.lostShare());
        Check.asks(() -> Offices.withdrawn(Offices.readyToClose(), 0), "returned ones count in all", 0f,
                o -> o.lostShare());
    }

    /** The same, where all is lost. */
    private static void lostShareOfAll() {
        Nominator office = Offices.standing(0);
        office.pay(0, 7);
        office.pass(21);
        office.withdraw(0);
        Check.same("all of 7", office.lostShare(), 1f);
        Check.same("sumLost", office.sumLost(), 7);
        Check.same("sumHeld", office.sumHeld(), 0);
    }
}
