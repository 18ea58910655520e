import java.util.function.Supplier;

/** The edges of replacing: "Replacing" among the terms, and the promises 18 and 19. Each test tells its sentence. */
public final class ReplacingEdgesTest {
    private static final Class<IndexOutOfBoundsException> NOT_THERE = IndexOutOfBoundsException.class;
    private static final Class<IllegalStateException> STATE = IllegalStateException.class;

    private ReplacingEdgesTest() {
    }

    public static void main(String[] args) {
        onlyOfAParty();
        notWithdrawn();
        notRejected();
        fewerThanTwoTimes();
        upToTheLastDayForChanges();
        openOrDead();
        theNewCandidateIsAlive();
        countsForThisPaperAlone();
        replaceNumbers();
        refusedReplacementsDoNotCount();
        Check.end();
    }

    /** Both calls: where isReplaceable is true, replace answers how often it was done; otherwise it is refused. */
    private static void replaceable(Supplier<Nominator> recipe, String what, int paper, int times) {
        Check.asks(recipe, "isReplaceable, " + what, true, o -> o.isReplaceable(paper));
        Check.answers(recipe, "replace, " + what, times, o -> Offices.replace(o, paper, "new"));
    }

    private static void notReplaceable(Supplier<Nominator> recipe, String what, int paper) {
        Check.asks(recipe, "isReplaceable, " + what, false, o -> o.isReplaceable(paper));
        Check.refuses(recipe, "replace, " + what, STATE, o -> Offices.replace(o, paper, "new"));
    }

    private static Nominator oneOf(int party) {
        Nominator office = Offices.twoAreas();
        Offices.file(office, 0, party, "a");
        return office;
    }

    /** "the paper is one of a party" */
    private static void onlyOfAParty() {
        notReplaceable(() -> oneOf(Nominator.INDEPENDENT), "an independent", 0);
        replaceable(() -> oneOf(0), "the party 0", 0, 1);
        replaceable(() -> oneOf(7), "the party 7", 0, 1);
        notReplaceable(() -> Offices.dead(oneOf(Nominator.INDEPENDENT), 0), "a dead independent", 0);
    }

    /** "it is neither withdrawn" */
    private static void notWithdrawn() {
        notReplaceable(() -> Offices.withdrawn(Offices.fourPapers(), 0), "withdrawn", 0);
        replaceable(() -> Offices.withdrawn(Offices.fourPapers(), 0), "another one withdrawn", 1, 1);
        notReplaceable(() -> Offices.withdrawn(Offices.dead(Offices.fourPapers(), 0), 0), "dead and withdrawn", 0);
        notReplaceable(() -> Offices.withdrawn(Offices.dead(Offices.closed(), 0), 0), "dead, withdrawn late", 0);
    }

    /** "nor rejected" */
    private static void notRejected() {
        replaceable(() -> Offices.later(Offices.dead(Offices.readyToClose(), 1), 20), "to be rejected tomorrow", 1,
                1);
        notReplaceable(() -> Offices.later(Offices.dead(Offices.readyToClose(), 1), 21), "dead and rejected", 1);
        replaceable(() -> Offices.later(Offices.dead(Offices.readyToClose(), 0), 21), "dead and accepted", 0, 1);
        notReplaceable(Offices::closed, "rejected", 1);
    }

    /** "its candidate has been replaced fewer than 2 times" */
    private static void fewerThanTwoTimes() {
        replaceable(Offices::fourPapers, "not replaced yet", 0, 1);
        replaceable(() -> Offices.replaced(Offices.fourPapers(), 0, 1), "replaced once", 0, 2);
        notReplaceable(() -> Offices.replaced(Offices.fourPapers(), 0, 2), "replaced twice", 0);
        notReplaceable(() -> Offices.dead(Offices.replaced(Offices.fourPapers(), 0, 2), 0), "replaced twice, dead", 0);
        Nominator office = Offices.dead(Offices.replaced(Offices.readyToClose(), 0, 1), 0);
        office.pass(21);
        Check.same("the second time after the close", Offices.replace(office, 0, "y"), 2);
        office.die(0);
        Check.same("the third time after the close", Check.outcomeOf(() -> Offices.replace(office, 0, "z")),
                "IllegalStateException");
    }

    /** "the present day is not greater than the last day for changes" */
    private static void upToTheLastDayForChanges() {
        replaceable(() -> Offices.later(Offices.dead(Offices.closed(), 0), 4), "the last day for changes", 0, 1);
        notReplaceable(() -> Offices.later(Offices.dead(Offices.closed(), 0), 5), "the day after", 0);
        notReplaceable(() -> Offices.dead(Offices.afterChanges(), 0), "dead after the changes", 0);
        replaceable(() -> Offices.dead(Offices.ofCalendar(3, 3, 9, 3), 0), "the closing day, the last one for changes",
                0, 1);
        notReplaceable(() -> Offices.dead(Offices.ofCalendar(3, 3, 9, 4), 0), "the day after both", 0);
        notReplaceable(() -> Offices.later(Offices.dead(Offices.closed(), 0), 19), "the polling day", 0);
    }

    /** "and the office is open or the candidate is dead" */
    private static void openOrDead() {
        replaceable(Offices::closingDay, "alive on the closing day", 0, 1);
        notReplaceable(Offices::closed, "alive on the day after", 0);
        replaceable(() -> Offices.dead(Offices.closingDay(), 0), "dead on the closing day", 0, 1);
        replaceable(() -> Offices.dead(Offices.closed(), 0), "dead on the day after", 0, 1);
        notReplaceable(() -> Offices.replaced(Offices.dead(Offices.closed(), 0), 0, 1), "replaced after the close", 0);
    }

    /** "Replaces the candidate of a paper by another one, who is alive." */
    private static void theNewCandidateIsAlive() {
        Nominator office = Offices.dead(Offices.closed(), 0);
        Check.same("before", office.reason(0), Nominator.DEAD);
        Offices.replace(office, 0, "new");
        Check.same("after", office.reason(0), Nominator.STANDS);
        Check.same("he can die, too", office.die(0), true);
        Check.same("reason after that", office.reason(0), Nominator.DEAD);
    }

    /** "Returns how often the candidate of this paper has been replaced, this time included." */
    private static void countsForThisPaperAlone() {
        Nominator office = Offices.fourPapers();
        Check.same("the paper 0", Offices.replace(office, 0, "x"), 1);
        Check.same("the paper 1", Offices.replace(office, 1, "x"), 1);
        Check.same("the paper 0 again", Offices.replace(office, 0, "x"), 2);
        Check.same("the paper 3", Offices.replace(office, 3, "x"), 1);
        Check.same("the paper 1 again", Offices.replace(office, 1, "x"), 2);
    }

    /** "IndexOutOfBoundsException if there is no such paper" */
    private static void replaceNumbers() {
        Check.refuses(Offices::twoAreas, "replace without papers", NOT_THERE, o -> Offices.replace(o, 0, "a"));
        Check.refuses(Offices::fourPapers, "replace(-1)", NOT_THERE, o -> Offices.replace(o, -1, "a"));
        Check.answers(Offices::fourPapers, "replace(3)", 1, o -> Offices.replace(o, 3, "a"));
        Check.refuses(Offices::fourPapers, "replace(4)", NOT_THERE, o -> Offices.replace(o, 4, "a"));
        Check.refuses(Offices::twoAreas, "isReplaceable without papers", NOT_THERE, o -> o.isReplaceable(0));
        Check.refuses(Offices::fourPapers, "isReplaceable(-1)", NOT_THERE, o -> o.isReplaceable(-1));
        Check.refuses(Offices::fourPapers, "isReplaceable(4)", NOT_THERE, o -> o.isReplaceable(4));
        Check.asks(Offices::full, "isReplaceable(11)", true, o -> o.isReplaceable(11));
        Check.refuses(Offices::full, "isReplaceable(12)", NOT_THERE, o -> o.isReplaceable(12));
    }

    /** "A method that throws an exception changes nothing", so that refused replacements are not counted. */
    private static void refusedReplacementsDoNotCount() {
        Nominator office = Offices.fourPapers();
        for (int k = 0; k < 3; k++) {
            Check.same("a name that is none", Check.outcomeOf(() -> office.replace(0, ' ', 'a', 'a', 'a')),
                    "IllegalArgumentException");
        }
        Check.same("the first replacement", Offices.replace(office, 0, "x"), 1);
        Check.same("the second replacement", Offices.replace(office, 0, "y"), 2);
        Check.same("the third replacement", Check.outcomeOf(() -> Offices.replace(office, 0, "z")),
                "IllegalStateException");
        Check.same("the name after that", Offices.nameOf(office, 0), "y   ");
    }
}
