import java.util.NoSuchElementException;
import java.util.function.Supplier;

/** The edges of votes: the promises 36 to 40. Each test tells its sentence. */
public final class VotesEdgesTest {
    private static final Class<IndexOutOfBoundsException> NOT_THERE = IndexOutOfBoundsException.class;
    private static final Class<IllegalArgumentException> RANGE = IllegalArgumentException.class;
    private static final Class<IllegalStateException> STATE = IllegalStateException.class;
    private static final Class<ArithmeticException> NO_VOTES = ArithmeticException.class;
    private static final Class<NoSuchElementException> NONE = NoSuchElementException.class;

    private VotesEdgesTest() {
    }

    public static void main(String[] args) {
        votesRange();
        votesFromThePollingDayOn();
        votesForWhatStands();
        votesUntilTheEnd();
        votesAddUp();
        finishFromThePollingDayOn();
        finishOnce();
        finishCountsStandingAndLost();
        votesOfAPaper();
        shareOfVotes();
        shareWithoutVotes();
        shareNumbers();
        winnerOfSeveral();
        winnerBeforeTheEnd();
        winnerWhereNoneStands();
        winnerNumbers();
        Check.end();
    }

    /** On the polling day so many papers stand in the area 0; the area 1 has none. */
    static Nominator polling(int papers) {
        Nominator office = new Nominator();
        office.addArea(1, 0);
        office.addArea(1, 0);
        for (int k = 0; k < papers; k++) {
            office.addVoter(0);
            Offices.file(office, 0, Nominator.INDEPENDENT, "a");
            office.sign(k, k);
            office.pay(k, 100);
        }
        return Offices.later(office, 40);
    }

    /** The paper k gets the votes k, where there are any. */
    static Nominator voted(int... votes) {
        Nominator office = polling(votes.length);
        for (int k = 0; k < votes.length; k++) {
            for (int left = votes[k]; left > 0; left -= 10000) {
                office.addVotes(k, Math.min(left, 10000));
            }
        }
        return office;
    }

    private static Supplier<Nominator> three() {
        return () -> polling(3);
    }

    /** "votes: the number of votes, 1 to 10000" */
    private static void votesRange() {
        Check.refuses(three(), "addVotes(0, 0)", RANGE, o -> o.addVotes(0, 0));
        Check.answers(three(), "addVotes(0, 1)", 1, o -> o.addVotes(0, 1));
        Check.answers(three(), "addVotes(0, 10000)", 10000, o -> o.addVotes(0, 10000));
        Check.refuses(three(), "addVotes(0, 10001)", RANGE, o -> o.addVotes(0, 10001));
        Check.refuses(three(), "addVotes(0, -1)", RANGE, o -> o.addVotes(0, -1));
        Check.refuses(three(), "addVotes(0, largest)", RANGE, o -> o.addVotes(0, Integer.MAX_VALUE));
        Check.refuses(three(), "addVotes(0, least)", RANGE, o -> o.addVotes(0, Integer.MIN_VALUE));
        Check.refuses(three(), "addVotes(-1, 1)", NOT_THERE, o -> o.addVotes(-1, 1));
        Check.answers(three(), "addVotes(2, 1)", 1, o -> o.addVotes(2, 1));
        Check.refuses(three(), "addVotes(3, 1)", NOT_THERE, o -> o.addVotes(3, 1));
        Check.refuses(Nominator::new, "addVotes in a new office", NOT_THERE, o -> o.addVotes(0, 1));
    }

    /** Of addVotes: "IllegalStateException if the present day is less than the polling day" */
    private static void votesFromThePollingDayOn() {
        Check.refuses(Offices::readyToClose, "addVotes while open", STATE, o -> o.addVotes(0, 1));
        Check.refuses(Offices::closed, "addVotes after the close", STATE, o -> o.addVotes(0, 1));
        Check.refuses(Offices::dayBeforePolling, "addVotes on the day before", STATE, o -> o.addVotes(0, 1));
        Check.answers(Offices::pollingDay, "addVotes on the polling day", 1, o -> o.addVotes(0, 1));
        Check.answers(Offices::lastDay, "addVotes on the last day", 1, o -> o.addVotes(0, 1));
        Check.refuses(() -> Offices.ofCalendar(0, 1, 2, 1), "addVotes on day 1 of 2", STATE, o -> o.addVotes(0, 1));
        Check.answers(() -> Offices.ofCalendar(0, 1, 2, 2), "addVotes on day 2 of 2", 1, o -> o.addVotes(0, 1));
    }

    /** Of addVotes: "the paper does not stand" */
    private static void votesForWhatStands() {
        Check.refuses(Offices::pollingDay, "addVotes for one that was short of signatures", STATE,
                o -> o.addVotes(1, 1));
        Check.refuses(Offices::pollingDay, "addVotes for one that was short of money", STATE,
                o -> o.addVotes(2, 1));
        Check.refuses(() -> Offices.pollingDay(Offices.withdrawn(Offices.readyToClose(), 0)),
                "addVotes for one that was withdrawn early", STATE, o -> o.addVotes(0, 1));
        Check.refuses(() -> Offices.pollingDay(Offices.withdrawn(Offices.closed(), 0)),
                "addVotes for one that was withdrawn late", STATE, o -> o.addVotes(0, 1));
        Check.refuses(() -> Offices.later(Offices.dead(Offices.dayBeforePolling(), 0), 1),
                "addVotes for one who died a day ago", STATE, o -> o.addVotes(0, 1));
        Check.answers(() -> Offices.later(Offices.dead(Offices.dayBeforePolling(), 0), 1),
                "addVotes for another one", 1, o -> o.addVotes(3, 1));
    }

    /** Of addVotes: "or the counting in its area is finished" */
    private static void votesUntilTheEnd() {
        Check.refuses(() -> Offices.finished(Offices.pollingDay(), 0), "addVotes after the end", STATE,
                o -> o.addVotes(0, 1));
        Check.answers(() -> Offices.finished(Offices.pollingDay(), 0), "addVotes in the other area", 1,
                o -> o.addVotes(3, 1));
        Check.answers(() -> Offices.finished(Offices.pollingDay(), 1), "addVotes in this area", 1,
                o -> o.addVotes(0, 1));
    }

    /** "Returns the votes of the paper after the call", which have no end. */
    private static void votesAddUp() {
        Nominator office = polling(2);
        for (int k = 1; k <= 400; k++) {
            Check.same("addVotes number " + k, office.addVotes(0, 10000), 10000 * k);
        }
        Check.same("the other paper", office.votes(1), 0);
        Check.same("a vote for the other paper", office.addVotes(1, 1), 1);
        Check.same("its share", office.share(1), 1.0 / 4000001.0);
        Check.same("the lost deposit", office.finish(0), 1);
        Check.same("the deposit of the winner", office.deposit(0), Nominator.RETURNED);
    }

    /** Of finish: "IllegalStateException if the present day is less than the polling day" */
    private static void finishFromThePollingDayOn() {
        Check.refuses(Offices::twoAreas, "finish on day 0", STATE, o -> o.finish(0));
        Check.refuses(Offices::dayBeforePolling, "finish on the day before", STATE, o -> o.finish(0));
        Check.answers(Offices::pollingDay, "finish on the polling day", 0, o -> o.finish(0));
        Check.answers(Offices::lastDay, "finish on the last day", 0, o -> o.finish(0));
        Check.refuses(() -> Offices.ofCalendar(0, 1, 2, 1), "finish on day 1 of 2", STATE, o -> o.finish(0));
        Check.answers(() -> Offices.ofCalendar(0, 1, 2, 2), "finish on day 2 of 2", 0, o -> o.finish(0));
    }

    /** Of finish: "or the counting is finished" */
    private static void finishOnce() {
        Check.refuses(() -> Offices.finished(polling(2), 0), "finish twice", STATE, o -> o.finish(0));
        Check.answers(() -> Offices.finished(polling(2), 0), "finish of the other area", 0, o -> o.finish(1));
        Check.refuses(() -> Offices.finished(polling(0), 1), "finish twice without papers", STATE, o -> o.finish(1));
        Check.refuses(Nominator::new, "finish in a new office", NOT_THERE, o -> o.finish(0));
        Check.refuses(() -> polling(2), "finish(-1)", NOT_THERE, o -> o.finish(-1));
        Check.refuses(() -> polling(2), "finish(2)", NOT_THERE, o -> o.finish(2));
        Nominator late = polling(1);
        late.addArea(1, 0);
        Check.same("finish of an area that is new", late.finish(2), 0);
    }

    /** "Returns the number of papers that stand in the area and whose deposits are lost after the call." */
    private static void finishCountsStandingAndLost() {
        Check.answers(() -> polling(3), "finish without votes", 0, o -> o.finish(0));
        Check.answers(() -> polling(0), "finish without papers", 0, o -> o.finish(0));
        Check.answers(() -> voted(95, 5), "5 of 100", 0, o -> o.finish(0));
        Check.answers(() -> voted(96, 5), "5 of 101", 1, o -> o.finish(0));
        Check.answers(() -> voted(94, 6), "6 of 100", 0, o -> o.finish(0));
        Check.answers(() -> voted(1, 0), "0 of 1", 1, o -> o.finish(0));
        Check.answers(() -> voted(1, 0, 0, 0, 0, 0, 0, 0, 0, 0, 0, 0), "eleven times 0 of 1", 11, o -> o.finish(0));
        Check.answers(() -> voted(0, 1), "0 of 1, the first one", 1, o -> o.finish(0));
        Check.answers(() -> voted(20, 1), "1 of 21", 1, o -> o.finish(0));
        Check.answers(() -> voted(19, 1), "1 of 20", 0, o -> o.finish(0));
        Check.answers(() -> voted(1900000, 100000), "100000 of 2000000", 0, o -> o.finish(0));
        Check.answers(() -> voted(1900001, 100000), "100000 of 2000001", 1, o -> o.finish(0));
        Nominator office = Offices.standing(0, 1, 2);
        office.pass(21);
        office.withdraw(1);
        office.die(2);
        Offices.later(office, 19);
        office.addVotes(0, 1);
        Check.same("those that do not stand are not counted", office.finish(0), 0);
        Check.same("though one is lost", office.deposit(1), Nominator.LOST);
    }

    /** "Returns the votes of a paper." */
    private static void votesOfAPaper() {
        Check.asks(Offices::fourPapers, "votes while open", 0, o -> o.votes(0));
        Check.asks(() -> voted(1, 0, 20000), "votes(0)", 1, o -> o.votes(0));
        Check.asks(() -> voted(1, 0, 20000), "votes(1)", 0, o -> o.votes(1));
        Check.asks(() -> voted(1, 0, 20000), "votes(2)", 20000, o -> o.votes(2));
        Check.asks(() -> Offices.finished(voted(1, 0, 20000), 0), "votes after the end", 20000, o -> o.votes(2));
        Nominator replaced = Offices.dead(Offices.closed(), 0);
        Offices.replace(replaced, 0, "new");
        Check.same("votes of a new candidate", replaced.votes(0), 0);
        Offices.later(replaced, 19);
        Check.same("the first vote of a new candidate", replaced.addVotes(0, 1), 1);
        Check.refuses(() -> voted(1), "votes(-1)", NOT_THERE, o -> o.votes(-1));
        Check.refuses(() -> voted(1), "votes(1) of one", NOT_THERE, o -> o.votes(1));
        Check.refuses(Nominator::new, "votes in a new office", NOT_THERE, o -> o.votes(0));
    }

    /** "divided by those of all papers of the area, both converted to double" */
    private static void shareOfVotes() {
        Check.asks(() -> voted(7), "all votes", 1.0, o -> o.share(0));
        Check.asks(() -> voted(7, 0), "no vote", 0.0, o -> o.share(1));
        Check.asks(() -> voted(1, 2), "one of three", 1.0 / 3.0, o -> o.share(0));
        Check.asks(() -> voted(1, 2), "two of three", 2.0 / 3.0, o -> o.share(1));
        Check.asks(() -> voted(3, 10000, 10000), "three of 20003", 3.0 / 20003.0, o -> o.share(0));
        Check.asks(() -> Offices.finished(voted(1, 2), 0), "one of three after the end", 1.0 / 3.0, o -> o.share(0));
        Nominator office = Offices.pollingDay();
        office.addVotes(0, 3);
        office.addVotes(3, 10000);
        Check.same("of the area alone", office.share(0), 1.0);
        Check.same("of a rejected paper", office.share(1), 0.0);
    }

    /** "ArithmeticException if the area has no votes" */
    private static void shareWithoutVotes() {
        Check.refuses(() -> polling(2), "share without votes", NO_VOTES, o -> o.share(0));
        Check.refuses(Offices::fourPapers, "share while open", NO_VOTES, o -> o.share(0));
        Check.refuses(() -> Offices.finished(polling(2), 0), "share without votes after the end", NO_VOTES,
                o -> o.share(1));
        Nominator office = Offices.pollingDay();
        office.addVotes(3, 1);
        Check.same("share where the other area has votes", Check.outcomeOf(() -> office.share(0)),
                "ArithmeticException");
        office.addVotes(0, 1);
        Check.same("share with one vote", office.share(0), 1.0);
    }

    /** Of share: "IndexOutOfBoundsException if there is no such paper" */
    private static void shareNumbers() {
        Check.refuses(Nominator::new, "share in a new office", NOT_THERE, o -> o.share(0));
        Check.refuses(() -> voted(1, 2), "share(-1)", NOT_THERE, o -> o.share(-1));
        Check.refuses(() -> voted(1, 2), "share(2)", NOT_THERE, o -> o.share(2));
        Check.asks(() -> voted(0, 0, 0, 0, 0, 0, 0, 0, 0, 0, 0, 4), "share(11)", 1.0, o -> o.share(11));
        Check.refuses(() -> voted(0, 0, 0, 0, 0, 0, 0, 0, 0, 0, 0, 4), "share(12)", NOT_THERE, o -> o.share(12));
    }

    /** "the paper with the most votes of those that stand in an area; of several, the one with the lowest number" */
    private static void winnerOfSeveral() {
        Check.asks(() -> Offices.finished(voted(5, 5, 5), 0), "three alike", 0, o -> o.winner(0));
        Check.asks(() -> Offices.finished(voted(4, 5, 5), 0), "the last two alike", 1, o -> o.winner(0));
        Check.asks(() -> Offices.finished(voted(5, 4, 5), 0), "the first and the last alike", 0, o -> o.winner(0));
        Check.asks(() -> Offices.finished(voted(4, 4, 5), 0), "one more for the last", 2, o -> o.winner(0));
        Check.asks(() -> Offices.finished(voted(0, 0, 1), 0), "one vote at all", 2, o -> o.winner(0));
        Check.asks(() -> Offices.finished(voted(0, 0, 0), 0), "no votes at all", 0, o -> o.winner(0));
        Check.asks(() -> Offices.finished(voted(0, 0, 0, 0, 0, 0, 0, 0, 0, 0, 0, 1), 0), "the paper 11", 11,
                o -> o.winner(0));
        Nominator office = Offices.pollingDay(Offices.withdrawn(Offices.later(Offices.standing(0, 1), 21), 0));
        office.finish(0);
        Check.same("the lowest number does not stand", office.winner(0), 1);
    }

    /** Of winner: "IllegalStateException if the counting in the area is not finished" */
    private static void winnerBeforeTheEnd() {
        Check.refuses(() -> voted(5, 4), "winner before the end", STATE, o -> o.winner(0));
        Check.refuses(() -> Offices.finished(voted(5, 4), 1), "winner, another area is finished", STATE,
                o -> o.winner(0));
        Check.asks(() -> Offices.finished(voted(5, 4), 0), "winner after the end", 0, o -> o.winner(0));
        Check.asks(() -> Offices.later(Offices.finished(voted(5, 6), 0), 59), "winner on the last day", 1,
                o -> o.winner(0));
        Check.refuses(Offices::readyToClose, "winner while open", STATE, o -> o.winner(0));
    }

    /** Of winner: "NoSuchElementException if no paper stands in the area" */
    private static void winnerWhereNoneStands() {
        Check.refuses(() -> Offices.finished(voted(5, 4), 1), "winner without papers", NONE, o -> o.winner(1));
        Check.refuses(() -> Offices.finished(Offices.pollingDay(Offices.fourPapers()), 0), "all are rejected", NONE,
                o -> o.winner(0));
        Check.refuses(() -> Offices.finished(Offices.pollingDay(Offices.withdrawn(Offices.closed(), 0)), 0),
                "the only one is withdrawn", NONE, o -> o.winner(0));
        Check.refuses(() -> Offices.finished(Offices.later(Offices.dead(Offices.dayBeforePolling(), 0), 1), 0),
                "the only candidate is dead", NONE, o -> o.winner(0));
    }

    /** Of winner: "IndexOutOfBoundsException if there is no such area" */
    private static void winnerNumbers() {
        Check.refuses(Nominator::new, "winner in a new office", NOT_THERE, o -> o.winner(0));
        Check.refuses(() -> Offices.finished(voted(5, 4), 0), "winner(-1)", NOT_THERE, o -> o.winner(-1));
        Check.refuses(() -> Offices.finished(voted(5, 4), 0), "winner(2)", NOT_THERE, o -> o.winner(2));
        Check.refuses(() -> Offices.finished(Offices.later(Offices.full(), 40), 4), "winner(5)", NOT_THERE,
                o -> o.winner(5));
        Check.refuses(() -> Offices.finished(Offices.later(Offices.full(), 40), 4), "winner(4)", NONE,
                o -> o.winner(4));
    }
}
