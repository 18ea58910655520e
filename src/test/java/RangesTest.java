import java.util.function.BiFunction;
import java.util.function.Supplier;

/** Each range that the document names: every number in it is taken, and those on both sides of it are refused. */
public final class RangesTest {
    private static final String OUT_OF_RANGE = "IllegalArgumentException";
    // How far on both sides of a range numbers are tried.
    private static final int MARGIN = 300;
    // A recipe and these calls are fewer than 512.
    private static final int CALLS_OF_ONE_OFFICE = 400;

    private RangesTest() {
    }

    public static void main(String[] args) {
        calendars();
        // What a call answers does not matter here, as other tests ask for it.
        range("needed", 1, 10, Nominator::new, 1, (o, k) -> o.addArea(k, 5));
        range("deposit", 0, 1000, Nominator::new, 1, (o, k) -> o.addArea(5, k));
        range("days", 1, 30, Nominator::new, 1, (o, k) -> o.pass(k));
        range("party", -1, 7, Offices::twoAreas, 1, (o, k) -> o.file(0, k, 'a', ' ', ' ', ' '));
        range("amount", 1, 1000, Offices::fourPapers, CALLS_OF_ONE_OFFICE, (o, k) -> o.pay(0, k));
        range("votes", 1, 10000, Offices::pollingDay, CALLS_OF_ONE_OFFICE, (o, k) -> o.addVotes(0, k));
        range("precinct of ballot", 0, 999, RangesTest::drawn, CALLS_OF_ONE_OFFICE, (o, k) -> o.ballot(0, k, 0));
        range("precinct of placeOnBallot", 0, 999, RangesTest::drawn, CALLS_OF_ONE_OFFICE,
                (o, k) -> o.placeOnBallot(0, k));
        depositsThatAreNeeded();
        Check.end();
    }

    private static Nominator drawn() {
        return Offices.drawn(Offices.closed(), 7);
    }

    private static void range(String what, int low, int high, Supplier<Nominator> recipe, int calls,
            BiFunction<Nominator, Integer, Object> call) {
        Nominator office = recipe.get();
        for (int k = low - MARGIN; k <= high + MARGIN; k++) {
            if ((k - low) % calls == 0) {
                office = recipe.get();
            }
            Nominator called = office;
            int number = k;
            Object got = Check.outcomeOf(() -> call.apply(called, number));
            Check.same(what + " " + k + " is out of range", OUT_OF_RANGE.equals(got), k < low || k > high);
            Check.same(what + " " + k + " is refused", got instanceof String, k < low || k > high);
        }
    }

    /** "closing: ... at least 0", "changes: ... at least the closing day", "polling: ... greater ... and at most 60" */
    private static void calendars() {
        for (int closing = -2; closing <= 62; closing++) {
            for (int changes = -2; changes <= 62; changes++) {
                Nominator office = new Nominator();
                int before = 40;
                for (int polling = -2; polling <= 63; polling++) {
                    boolean fits = closing >= 0 && changes >= closing && polling > changes && polling <= 60;
                    int[] days = {closing, changes, polling};
                    Object got = Check.outcomeOf(() -> office.setCalendar(days[0], days[1], days[2]));
                    Check.same("setCalendar(" + closing + ", " + changes + ", " + polling + ")", got,
                            fits ? before : OUT_OF_RANGE);
                    before = fits ? polling : before;
                }
            }
        }
    }

    /** "at least the deposit of its area has been paid for it", for each deposit: one less is too low. */
    private static void depositsThatAreNeeded() {
        for (int deposit = 1; deposit <= 1000; deposit++) {
            Nominator office = new Nominator();
            office.addArea(1, deposit);
            office.addVoter(0);
            Offices.file(office, 0, 1, "a");
            office.sign(0, 0);
            if (deposit > 1) {
                office.pay(0, deposit - 1);
            }
            Check.same("one less than " + deposit, office.reason(0), Nominator.DEPOSIT_SHORT);
            office.pay(0, 1);
            Check.same("so much as " + deposit, office.reason(0), Nominator.STANDS);
        }
    }
}
