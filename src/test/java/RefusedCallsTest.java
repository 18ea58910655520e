import java.util.ArrayList;
import java.util.List;
import java.util.function.Function;
import java.util.function.Supplier;

/**
 * "A method that throws an exception changes nothing", and "The other calls are questions, which change nothing": many
 * calls at many times in an office where much has happened, and afterwards it has to be as one that was not called.
 */
public final class RefusedCallsTest {
    private static final int[] NUMBERS = {-1, 0, 1, 2, 3, 4, 5, 6, 12, 33};

    private final List<Function<Nominator, Object>> events = new ArrayList<>();
    private final List<String> names = new ArrayList<>();
    private int refused = 0;

    private RefusedCallsTest() {
        addEventsWithoutNumbers();
        for (int k : NUMBERS) {
            addEventsOfPaper(k);
            add("addVoter(" + k + ")", o -> o.addVoter(k));
            add("strike(" + k + ")", o -> o.strike(k));
            add("restore(" + k + ")", o -> o.restore(k));
            add("finish(" + k + ")", o -> o.finish(k));
            add("move(" + k + ", 0)", o -> o.move(k, 0));
            add("move(" + k + ", 1)", o -> o.move(k, 1));
            add("move(0, " + k + ")", o -> o.move(0, k));
            add("sign(0, " + k + ")", o -> o.sign(0, k));
            add("file(" + k + ", 3, name)", o -> o.file(k, 3, 'q', 'q', 'q', 'q'));
            add("file(0, " + (k - 2) + ", name)", o -> o.file(0, k - 2, 'q', 'q', 'q', 'q'));
        }
    }

    public static void main(String[] args) {
        refuse("day 0", RefusedCallsTest::busy);
        refuse("the closing day", () -> Offices.later(busy(), 20));
        refuse("the day after the close", () -> Offices.later(busy(), 21));
        refuse("drawn", () -> Offices.drawn(Offices.later(busy(), 21), 7));
        refuse("withdrawn late", () -> Offices.withdrawn(Offices.later(busy(), 21), 0));
        refuse("dead late", () -> Offices.dead(Offices.later(busy(), 21), 0));
        refuse("the last day for changes", () -> Offices.later(busy(), 25));
        refuse("the day after the changes", () -> Offices.drawn(Offices.later(busy(), 26), 7));
        refuse("the day before polling", () -> Offices.later(busy(), 39));
        refuse("the polling day", () -> Offices.later(busy(), 40));
        refuse("votes", RefusedCallsTest::voted);
        refuse("finished", () -> Offices.finished(voted(), 0));
        refuse("the last day", () -> Offices.later(Offices.finished(voted(), 1), 59));
        refuse("five areas", RefusedCallsTest::fiveAreas);
        refuse("all there can be", Offices::full);
        Check.end();
    }

    /**
     * The papers 0 (party 1) and 5 (party 2, area 1) are acceptable, 1 is a double of 0, 2 is withdrawn, the candidate
     * of 3 (party 4), which is acceptable but for its signatures, is dead, 4 is replaced once and short of money.
     */
    private static Nominator busy() {
        Nominator office = Offices.twoAreas();
        Offices.addVoters(office, 0, 3);
        for (int party : new int[] {1, 1, Nominator.INDEPENDENT, 4, 5}) {
            int paper = Offices.file(office, 0, party, "p" + (char) ('b' + party));
            office.pay(paper, paper == 4 ? 499 : 500);
        }
        Offices.file(office, 1, 2, "pz");
        int[][] signed = {{2, 0}, {0, 0}, {0, 1}, {1, 2}, {1, 3}, {3, 1}, {3, 6}, {0, 6}, {4, 7}, {4, 8}, {5, 4},
            {0, 5}};
        for (int[] one : signed) {
            office.sign(one[0], one[1]);
        }
        office.strike(8);
        office.move(3, 1);
        office.withdraw(2);
        office.die(3);
        Offices.replace(office, 4, "new");
        return office;
    }

    private static Nominator voted() {
        Nominator office = Offices.drawn(Offices.later(busy(), 40), 7);
        office.addVotes(0, 7);
        office.addVotes(5, 3);
        return office;
    }

    /** Each area needs two signatures and 500; a paper there has one signature, and 500 are paid for it. */
    private static Nominator fiveAreas() {
        Nominator office = new Nominator();
        for (int k = 0; k < 5; k++) {
            office.addArea(2, 500);
            office.addVoter(k);
            Offices.file(office, k, 1, "a");
            office.sign(k, k);
            office.pay(k, 500);
        }
        return office;
    }

    private void add(String name, Function<Nominator, Object> event) {
        names.add(name);
        events.add(event);
    }

    private void addEventsWithoutNumbers() {
        add("setCalendar(3, 5, 9)", o -> o.setCalendar(3, 5, 9));
        add("setCalendar(30, 5, 9)", o -> o.setCalendar(30, 5, 9));
        add("setCalendar(3, 50, 61)", o -> o.setCalendar(3, 50, 61));
        add("pass(0)", o -> o.pass(0));
        add("pass(30)", o -> o.pass(30));
        add("pass(31)", o -> o.pass(31));
        add("addArea(1, 1000)", o -> o.addArea(1, 1000));
        add("addArea(0, 1000)", o -> o.addArea(0, 1000));
        add("addArea(1, 1001)", o -> o.addArea(1, 1001));
        add("draw(3)", o -> o.draw(3));
    }

    private void addEventsOfPaper(int paper) {
        add("sign(" + paper + ", 0)", o -> o.sign(paper, 0));
        add("sign(" + paper + ", 9)", o -> o.sign(paper, 9));
        add("pay(" + paper + ", 1)", o -> o.pay(paper, 1));
        add("pay(" + paper + ", 0)", o -> o.pay(paper, 0));
        add("pay(" + paper + ", 1001)", o -> o.pay(paper, 1001));
        add("withdraw(" + paper + ")", o -> o.withdraw(paper));
        add("die(" + paper + ")", o -> o.die(paper));
        add("replace(" + paper + ", name)", o -> o.replace(paper, 'q', 'q', 'q', 'q'));
        add("replace(" + paper + ", no name)", o -> o.replace(paper, 'q', ' ', 'q', 'q'));
        add("addVotes(" + paper + ", 1)", o -> o.addVotes(paper, 1));
        add("addVotes(" + paper + ", 0)", o -> o.addVotes(paper, 0));
        add("addVotes(" + paper + ", 10001)", o -> o.addVotes(paper, 10001));
        add("file(" + (paper - 1) + ", 3, no name)", o -> o.file(paper - 1, 3, 'q', 'q', ' ', 'q'));
    }

    /** Those events that are refused, and all questions. */
    private static void refuse(String when, Supplier<Nominator> recipe) {
        RefusedCallsTest test = new RefusedCallsTest();
        for (int k = 0; k < test.events.size(); k++) {
            Function<Nominator, Object> event = test.events.get(k);
            Nominator office = recipe.get();
            Object outcome = Check.outcomeOf(() -> event.apply(office));
            if (outcome instanceof String) {
                test.refused++;
                Check.asks(recipe, test.names.get(k) + ", " + when, outcome, event);
            }
        }
        Check.same("many are refused, " + when, test.refused > 60, true);
        for (Function<Nominator, Object> question : Questions.of(recipe.get())) {
            Nominator office = recipe.get();
            Check.asks(recipe, "a question, " + when, Check.outcomeOf(() -> question.apply(office)), question);
        }
    }
}
