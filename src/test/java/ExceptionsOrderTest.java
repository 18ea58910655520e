import java.util.NoSuchElementException;
import java.util.function.Function;
import java.util.function.Supplier;

/** "If several exceptions apply, the exception that is listed first is thrown": each pair that can apply at once. */
public final class ExceptionsOrderTest {
    private static final Class<IndexOutOfBoundsException> NOT_THERE = IndexOutOfBoundsException.class;
    private static final Class<IllegalArgumentException> RANGE = IllegalArgumentException.class;
    private static final Class<IllegalStateException> STATE = IllegalStateException.class;
    private static final Class<NoSuchElementException> NONE = NoSuchElementException.class;

    private ExceptionsOrderTest() {
    }

    public static void main(String[] args) {
        setCalendar();
        pass();
        addArea();
        addVoter();
        fileInNoArea();
        fileOutOfRange();
        sign();
        pay();
        withdrawAndDie();
        replaceNoPaper();
        replaceByNoName();
        wouldCount();
        paperOf();
        gain();
        fewestWithdrawals();
        letter();
        ballotOfNoArea();
        ballotOutOfRange();
        ballotBeforeTheDraw();
        placeOnBallot();
        addVotes();
        finish();
        share();
        winner();
        Check.end();
    }

    private static void first(Supplier<Nominator> recipe, String what, Class<? extends RuntimeException> due,
            Function<Nominator, Object> call) {
        Check.refuses(recipe, what, due, call);
    }

    private static Nominator fullAndClosed() {
        return Offices.closed(Offices.full());
    }

    private static void setCalendar() {
        first(() -> Offices.later(new Nominator(), 1), "a day out of range, on day 1", RANGE,
                o -> o.setCalendar(-1, 5, 9));
        first(() -> Offices.later(new Nominator(), 1), "polling 61 on day 1", RANGE, o -> o.setCalendar(3, 5, 61));
        first(Offices::fourPapers, "a day out of range, with papers", RANGE, o -> o.setCalendar(3, 2, 9));
        first(Offices::closed, "polling too early, on day 21 with papers", RANGE, o -> o.setCalendar(3, 5, 5));
    }

    private static void pass() {
        first(Offices::lastDay, "pass(31) on day 99", RANGE, o -> o.pass(31));
        first(Offices::lastDay, "pass(largest) on day 99", RANGE, o -> o.pass(Integer.MAX_VALUE));
        first(() -> Offices.later(new Nominator(), 69), "pass(31) on day 69", RANGE, o -> o.pass(31));
        first(Offices::lastDay, "pass(0) on day 99", RANGE, o -> o.pass(0));
    }

    private static void addArea() {
        first(Offices::full, "needed 0, five areas", RANGE, o -> o.addArea(0, 0));
        first(Offices::full, "needed 11, five areas", RANGE, o -> o.addArea(11, 0));
        first(Offices::full, "deposit -1, five areas", RANGE, o -> o.addArea(1, -1));
        first(Offices::full, "deposit 1001, five areas", RANGE, o -> o.addArea(1, 1001));
    }

    private static void addVoter() {
        first(Offices::full, "no area, forty voters", NOT_THERE, o -> o.addVoter(5));
        first(Offices::full, "the area -1, forty voters", NOT_THERE, o -> o.addVoter(-1));
    }

    private static Object fileOne(Nominator office, int area, int party, char first) {
        return office.file(area, party, first, ' ', ' ', ' ');
    }

    private static void fileInNoArea() {
        first(Offices::twoAreas, "no area, no party", NOT_THERE, o -> fileOne(o, 2, 8, 'a'));
        first(Offices::twoAreas, "no area, no name", NOT_THERE, o -> fileOne(o, -1, 0, ' '));
        first(Offices::closed, "no area, closed", NOT_THERE, o -> fileOne(o, 2, 0, 'a'));
        first(Offices::full, "no area, twelve papers", NOT_THERE, o -> fileOne(o, 5, 0, 'a'));
        first(ExceptionsOrderTest::fullAndClosed, "no area and all else", NOT_THERE, o -> fileOne(o, 5, 8, ' '));
    }

    private static void fileOutOfRange() {
        first(Offices::closed, "no party, closed", RANGE, o -> fileOne(o, 0, 8, 'a'));
        first(Offices::closed, "the party -2, closed", RANGE, o -> fileOne(o, 0, -2, 'a'));
        first(Offices::closed, "no name, closed", RANGE, o -> fileOne(o, 0, 0, ' '));
        first(Offices::full, "no party, twelve papers", RANGE, o -> fileOne(o, 0, 8, 'a'));
        first(Offices::full, "no name, twelve papers", RANGE, o -> fileOne(o, 0, 0, 'A'));
        first(ExceptionsOrderTest::fullAndClosed, "no party, closed, twelve papers", RANGE,
                o -> fileOne(o, 0, 8, 'a'));
    }

    private static void sign() {
        first(Offices::closed, "no paper, closed", NOT_THERE, o -> o.sign(4, 0));
        first(Offices::closed, "no voter, closed", NOT_THERE, o -> o.sign(0, 6));
        first(() -> Offices.withdrawn(Offices.fourPapers(), 1), "no voter, withdrawn", NOT_THERE, o -> o.sign(1, 6));
        first(Offices::full, "no paper, 150 signatures", NOT_THERE, o -> o.sign(12, 0));
        first(Offices::full, "no voter, 150 signatures", NOT_THERE, o -> o.sign(0, 40));
        first(() -> Offices.closed(Offices.withdrawn(Offices.full(), 0)), "no voter and all else", NOT_THERE,
                o -> o.sign(0, -1));
    }

    private static void pay() {
        first(Offices::fourPapers, "no paper, amount 0", NOT_THERE, o -> o.pay(4, 0));
        first(Offices::closed, "no paper, closed", NOT_THERE, o -> o.pay(-1, 1));
        first(Offices::closed, "no paper, amount 1001, closed", NOT_THERE, o -> o.pay(4, 1001));
        first(Offices::closed, "amount 0, closed", RANGE, o -> o.pay(0, 0));
        first(Offices::closed, "amount 1001, closed", RANGE, o -> o.pay(0, 1001));
        first(() -> Offices.withdrawn(Offices.fourPapers(), 1), "amount 0, withdrawn", RANGE, o -> o.pay(1, 0));
        first(() -> Offices.withdrawn(Offices.fourPapers(), 1), "amount 1001, withdrawn", RANGE,
                o -> o.pay(1, 1001));
    }

    private static void withdrawAndDie() {
        first(Offices::afterChanges, "withdraw of no paper, after the changes", NOT_THERE, o -> o.withdraw(4));
        first(Offices::afterChanges, "withdraw(-1), after the changes", NOT_THERE, o -> o.withdraw(-1));
        first(Offices::pollingDay, "die for no paper, on the polling day", NOT_THERE, o -> o.die(4));
        first(Offices::pollingDay, "die(-1), on the polling day", NOT_THERE, o -> o.die(-1));
    }

    private static Object replaceBy(Nominator office, int paper, char first) {
        return office.replace(paper, first, ' ', ' ', ' ');
    }

    private static void replaceNoPaper() {
        first(Offices::fourPapers, "no paper, no name", NOT_THERE, o -> replaceBy(o, 4, ' '));
        first(Offices::afterChanges, "no paper, after the changes", NOT_THERE, o -> replaceBy(o, -1, 'a'));
        first(Offices::afterChanges, "no paper, no name, after the changes", NOT_THERE, o -> replaceBy(o, 4, ' '));
    }

    private static void replaceByNoName() {
        first(Offices::fourPapers, "no name, independent", RANGE, o -> replaceBy(o, 2, ' '));
        first(() -> Offices.withdrawn(Offices.fourPapers(), 1), "no name, withdrawn", RANGE,
                o -> replaceBy(o, 1, 'Z'));
        first(Offices::closed, "no name, rejected", RANGE, o -> replaceBy(o, 1, ' '));
        first(Offices::closed, "no name, alive after the close", RANGE, o -> replaceBy(o, 0, ' '));
        first(() -> Offices.dead(Offices.afterChanges(), 0), "no name, after the changes", RANGE,
                o -> replaceBy(o, 0, ' '));
        first(() -> Offices.replaced(Offices.fourPapers(), 0, 2), "no name, replaced twice", RANGE,
                o -> replaceBy(o, 0, ' '));
    }

    private static void wouldCount() {
        first(Offices::closed, "no paper, closed", NOT_THERE, o -> o.wouldCount(4, 0));
        first(Offices::closed, "no voter, closed", NOT_THERE, o -> o.wouldCount(0, 6));
        first(() -> Offices.withdrawn(Offices.fourPapers(), 1), "no voter, withdrawn", NOT_THERE,
                o -> o.wouldCount(1, -1));
    }

    private static void paperOf() {
        first(Offices::fourPapers, "no voter, no signature", NOT_THERE, o -> o.paperOf(6));
        first(Offices::fourPapers, "the voter -1, no signature", NOT_THERE, o -> o.paperOf(-1));
    }

    private static void gain() {
        first(Offices::fourPapers, "no paper, twice", NOT_THERE, o -> o.gain(4, 4));
        first(Offices::fourPapers, "the paper -1, twice", NOT_THERE, o -> o.gain(-1, -1));
        first(Offices::closed, "no paper, closed", NOT_THERE, o -> o.gain(4, 0));
        first(Offices::closed, "no other paper, closed", NOT_THERE, o -> o.gain(0, 4));
        first(() -> Offices.withdrawn(Offices.fourPapers(), 0), "no other paper, withdrawn", NOT_THERE,
                o -> o.gain(0, -1));
        first(Offices::closed, "the same paper, closed", RANGE, o -> o.gain(0, 0));
        first(() -> Offices.withdrawn(Offices.fourPapers(), 0), "the same paper, withdrawn", RANGE,
                o -> o.gain(0, 0));
        first(Offices::closed, "no paper, twice, closed", NOT_THERE, o -> o.gain(4, 4));
    }

    private static void fewestWithdrawals() {
        first(Offices::closed, "no paper, closed", NOT_THERE, o -> o.fewestWithdrawals(4));
        first(() -> Offices.closed(Offices.fourPapers()), "closed, no set", STATE, o -> o.fewestWithdrawals(0));
        first(() -> Offices.withdrawn(Offices.fourPapers(), 0), "withdrawn, no set", STATE,
                o -> o.fewestWithdrawals(0));
        first(Offices::fourPapers, "no paper, no set", NOT_THERE, o -> o.fewestWithdrawals(-1));
    }

    private static void letter() {
        first(Offices::closed, "no place, not drawn", NOT_THERE, o -> o.letter(26));
        first(Nominator::new, "the place -1, not drawn", NOT_THERE, o -> o.letter(-1));
    }

    private static void ballotOfNoArea() {
        first(() -> Offices.drawn(Offices.closed(), 1), "no area, no precinct", NOT_THERE, o -> o.ballot(2, -1, 0));
        first(Offices::closed, "no area, not drawn", NOT_THERE, o -> o.ballot(-1, 0, 0));
        first(() -> Offices.drawn(Offices.closed(), 1), "no area, no place", NOT_THERE, o -> o.ballot(2, 0, -1));
        first(Offices::closed, "no area and all else", NOT_THERE, o -> o.ballot(2, 1000, 99));
    }

    private static void ballotOutOfRange() {
        first(Offices::closed, "the precinct -1, not drawn", RANGE, o -> o.ballot(0, -1, 0));
        first(Offices::closed, "the precinct 1000, not drawn", RANGE, o -> o.ballot(0, 1000, 0));
        first(() -> Offices.drawn(Offices.closed(), 1), "the precinct 1000, no place", RANGE,
                o -> o.ballot(0, 1000, 1));
        first(() -> Offices.drawn(Offices.closed(), 1), "the precinct -1, no place", RANGE, o -> o.ballot(0, -1, -1));
        first(Offices::closed, "no precinct, not drawn, no place", RANGE, o -> o.ballot(0, 1000, -1));
    }

    private static void ballotBeforeTheDraw() {
        first(Offices::closed, "not drawn, the place -1", STATE, o -> o.ballot(0, 0, -1));
        first(Offices::closed, "not drawn, the place 1 of one", STATE, o -> o.ballot(0, 0, 1));
        first(Offices::twoAreas, "not drawn, no papers", STATE, o -> o.ballot(0, 0, 0));
    }

    private static void placeOnBallot() {
        first(() -> Offices.drawn(Offices.closed(), 1), "no paper, no precinct", NOT_THERE,
                o -> o.placeOnBallot(4, -1));
        first(Offices::closed, "no paper, not drawn", NOT_THERE, o -> o.placeOnBallot(4, 0));
        first(Offices::closed, "no paper and all else", NOT_THERE, o -> o.placeOnBallot(-1, 1000));
        first(Offices::closed, "no precinct, not drawn", RANGE, o -> o.placeOnBallot(0, 1000));
        first(() -> Offices.drawn(Offices.closed(), 1), "no precinct, does not stand", RANGE,
                o -> o.placeOnBallot(1, -1));
        first(Offices::closed, "no precinct, not drawn, does not stand", RANGE, o -> o.placeOnBallot(1, -1));
    }

    private static void addVotes() {
        first(Offices::pollingDay, "no paper, votes 0", NOT_THERE, o -> o.addVotes(4, 0));
        first(Offices::closed, "no paper, before polling", NOT_THERE, o -> o.addVotes(-1, 1));
        first(Offices::closed, "no paper and all else", NOT_THERE, o -> o.addVotes(4, 10001));
        first(Offices::dayBeforePolling, "votes 0, before polling", RANGE, o -> o.addVotes(0, 0));
        first(Offices::dayBeforePolling, "votes 10001, before polling", RANGE, o -> o.addVotes(0, 10001));
        first(Offices::pollingDay, "votes 0, does not stand", RANGE, o -> o.addVotes(1, 0));
        first(Offices::pollingDay, "votes 10001, does not stand", RANGE, o -> o.addVotes(1, 10001));
        first(() -> Offices.finished(Offices.pollingDay(), 0), "votes 0, finished", RANGE, o -> o.addVotes(0, 0));
        first(() -> Offices.finished(Offices.pollingDay(), 0), "votes 10001, finished", RANGE,
                o -> o.addVotes(0, 10001));
    }

    private static void finish() {
        first(Offices::dayBeforePolling, "no area, before polling", NOT_THERE, o -> o.finish(2));
        first(Offices::readyToClose, "the area -1, before polling", NOT_THERE, o -> o.finish(-1));
    }

    private static void share() {
        first(Offices::fourPapers, "no paper, no votes", NOT_THERE, o -> o.share(4));
        first(Nominator::new, "the paper -1, no votes", NOT_THERE, o -> o.share(-1));
    }

    private static void winner() {
        first(Offices::pollingDay, "no area, not finished", NOT_THERE, o -> o.winner(2));
        first(Offices::pollingDay, "the area -1, not finished", NOT_THERE, o -> o.winner(-1));
        first(Offices::twoAreas, "not finished, none stands", STATE, o -> o.winner(0));
        first(() -> Offices.pollingDay(Offices.fourPapers()), "not finished, all rejected", STATE, o -> o.winner(0));
        first(() -> Offices.finished(Offices.pollingDay(Offices.fourPapers()), 0), "finished, all rejected", NONE,
                o -> o.winner(0));
    }
}
