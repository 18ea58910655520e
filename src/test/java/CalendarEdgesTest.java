/** The edges of the calendar: "Calendar" among the terms, and the promises 1 to 5. Each test tells its sentence. */
public final class CalendarEdgesTest {
    private static final Class<IndexOutOfBoundsException> NOT_THERE = IndexOutOfBoundsException.class;
    private static final Class<IllegalArgumentException> RANGE = IllegalArgumentException.class;
    private static final Class<IllegalStateException> STATE = IllegalStateException.class;

    private CalendarEdgesTest() {
    }

    public static void main(String[] args) {
        daysAreNumberedFromZero();
        firstClosingDay();
        firstLastDayForChanges();
        firstPollingDay();
        openUpToTheClosingDay();
        theCloseIsTheEndOfTheClosingDay();
        newOfficeHasNothing();
        closingIsAtLeastZero();
        changesAreAtLeastClosing();
        pollingIsAfterChanges();
        pollingIsAtMostSixty();
        farAwayDays();
        setCalendarReturnsTheOldPollingDay();
        setCalendarOnDayZeroAlone();
        setCalendarBeforeAnyPaperAlone();
        refusedCalendarIsNotKept();
        passRange();
        passUpToDayNinetyNine();
        passIsOneDayAfterTheOther();
        dayAndIsOpenChangeNothing();
        Check.end();
    }

    /** "Days are numbered from 0, and the present day is 0 at first." */
    private static void daysAreNumberedFromZero() {
        Check.asks(Nominator::new, "the first day", 0, o -> o.day());
        Check.answers(Nominator::new, "the day after the first", 1, o -> o.pass(1));
    }

    /** "the closing day (20 at first)" */
    private static void firstClosingDay() {
        Check.asks(() -> Offices.later(new Nominator(), 20), "isOpen on day 20", true, o -> o.isOpen());
        Check.asks(() -> Offices.later(new Nominator(), 21), "isOpen on day 21", false, o -> o.isOpen());
    }

    /** "the last day for changes (25 at first)" */
    private static void firstLastDayForChanges() {
        Check.answers(() -> Offices.later(Offices.readyToClose(), 25), "withdraw on day 25", 0, o -> o.withdraw(0));
        Check.refuses(() -> Offices.later(Offices.readyToClose(), 26), "withdraw on day 26", STATE,
                o -> o.withdraw(0));
    }

    /** "and the polling day (40 at first)" */
    private static void firstPollingDay() {
        Check.answers(Nominator::new, "the first polling day", 40, o -> o.setCalendar(1, 2, 3));
        Check.refuses(() -> Offices.later(Offices.closed(), 18), "finish on day 39", STATE, o -> o.finish(0));
        Check.answers(() -> Offices.later(Offices.closed(), 19), "finish on day 40", 0, o -> o.finish(0));
    }

    private static Nominator dayOf(int closing, int day) {
        Nominator office = new Nominator();
        office.setCalendar(closing, 59, 60);
        for (int k = 0; k < day; k++) {
            office.pass(1);
        }
        return office;
    }

    /** "The office is open as long as the present day is not greater than the closing day, and closed afterwards." */
    private static void openUpToTheClosingDay() {
        for (int closing : new int[] {0, 1, 30, 58, 59}) {
            Check.answers(() -> dayOf(closing, 0), "isOpen on day 0, closing " + closing, true, o -> o.isOpen());
            Check.answers(() -> dayOf(closing, closing), "isOpen on the closing day " + closing, true,
                    o -> o.isOpen());
            Check.answers(() -> dayOf(closing, closing + 1), "isOpen after the closing day " + closing, false,
                    o -> o.isOpen());
            Check.answers(() -> dayOf(closing, 99), "isOpen on day 99, closing " + closing, false, o -> o.isOpen());
        }
    }

    /** "The close is the moment at which the closing day ends." */
    private static void theCloseIsTheEndOfTheClosingDay() {
        Nominator office = Offices.later(Offices.readyToClose(), 20);
        office.pay(2, 1);
        office.pass(1);
        Check.same("paid on the closing day", office.reason(2), Nominator.STANDS);
        office = Offices.later(Offices.readyToClose(), 20);
        office.strike(0);
        office.pass(1);
        office.restore(0);
        Check.same("struck off on the closing day, restored on the next", office.reason(0),
                Nominator.TOO_FEW_SIGNATURES);
    }

    /** "Creates an office on day 0, without areas, voters and papers." */
    private static void newOfficeHasNothing() {
        Check.asks(Nominator::new, "day of a new office", 0, o -> o.day());
        Check.refuses(Nominator::new, "area 0 of a new office", NOT_THERE, o -> o.ballotSize(0));
        Check.refuses(Nominator::new, "voter 0 of a new office", NOT_THERE, o -> o.areaOf(0));
        Check.refuses(Nominator::new, "paper 0 of a new office", NOT_THERE, o -> o.reason(0));
        Check.refuses(Nominator::new, "signature 0 of a new office", NOT_THERE, o -> o.signatureResult(0));
        Check.asks(Nominator::new, "papers of a new office", 0, o -> o.papers());
        Check.asks(Nominator::new, "signatures of a new office", 0, o -> o.signatures());
        Check.asks(Nominator::new, "sumHeld of a new office", 0, o -> o.sumHeld());
        Check.asks(Nominator::new, "sumLost of a new office", 0, o -> o.sumLost());
        Check.refuses(Nominator::new, "lostShare of a new office", ArithmeticException.class, o -> o.lostShare());
    }

    /** "closing: the closing day, at least 0" */
    private static void closingIsAtLeastZero() {
        Check.refuses(Nominator::new, "closing -1", RANGE, o -> o.setCalendar(-1, 0, 1));
        Check.answers(Nominator::new, "closing 0", 40, o -> o.setCalendar(0, 0, 1));
        Check.refuses(Nominator::new, "least closing", RANGE, o -> o.setCalendar(Integer.MIN_VALUE, 25, 40));
    }

    /** "changes: the last day for changes, at least the closing day" */
    private static void changesAreAtLeastClosing() {
        Check.refuses(Nominator::new, "changes a day before closing", RANGE, o -> o.setCalendar(7, 6, 9));
        Check.answers(Nominator::new, "changes on the closing day", 40, o -> o.setCalendar(7, 7, 9));
        Check.refuses(Nominator::new, "changes -1", RANGE, o -> o.setCalendar(0, -1, 9));
        Check.refuses(Nominator::new, "changes 58, closing 59", RANGE, o -> o.setCalendar(59, 58, 60));
        Check.answers(Nominator::new, "changes 59, closing 59", 40, o -> o.setCalendar(59, 59, 60));
        Check.refuses(Nominator::new, "least changes", RANGE, o -> o.setCalendar(0, Integer.MIN_VALUE, 9));
    }

    /** "polling: the polling day, greater than the last day for changes" */
    private static void pollingIsAfterChanges() {
        Check.refuses(Nominator::new, "polling before changes", RANGE, o -> o.setCalendar(3, 7, 6));
        Check.refuses(Nominator::new, "polling on the last day for changes", RANGE, o -> o.setCalendar(3, 7, 7));
        Check.answers(Nominator::new, "polling on the day after", 40, o -> o.setCalendar(3, 7, 8));
        Check.refuses(Nominator::new, "polling 0", RANGE, o -> o.setCalendar(0, 0, 0));
    }

    /** "and at most 60" */
    private static void pollingIsAtMostSixty() {
        Check.answers(Nominator::new, "polling 60", 40, o -> o.setCalendar(3, 7, 60));
        Check.refuses(Nominator::new, "polling 61", RANGE, o -> o.setCalendar(3, 7, 61));
        Check.refuses(Nominator::new, "changes 60, polling 60", RANGE, o -> o.setCalendar(3, 60, 60));
        Check.refuses(Nominator::new, "changes 60, polling 61", RANGE, o -> o.setCalendar(3, 60, 61));
    }

    /** "IllegalArgumentException if a day is out of its range", where a sum would wrap around. */
    private static void farAwayDays() {
        int most = Integer.MAX_VALUE;
        int least = Integer.MIN_VALUE;
        Check.refuses(Nominator::new, "largest days", RANGE, o -> o.setCalendar(most, most, most));
        Check.refuses(Nominator::new, "largest changes, least polling", RANGE, o -> o.setCalendar(0, most, least));
        Check.refuses(Nominator::new, "largest polling", RANGE, o -> o.setCalendar(0, 0, most));
        Check.refuses(Nominator::new, "least polling", RANGE, o -> o.setCalendar(0, 0, least));
        Check.refuses(Nominator::new, "least days", RANGE, o -> o.setCalendar(least, least, least));
    }

    /** "Returns the polling day before the call." */
    private static void setCalendarReturnsTheOldPollingDay() {
        Nominator office = new Nominator();
        Check.same("the first calendar", office.setCalendar(0, 0, 1), 40);
        Check.same("the second calendar", office.setCalendar(10, 20, 60), 1);
        Check.same("the same calendar again", office.setCalendar(10, 20, 60), 60);
    }

    /** "IllegalStateException if the present day is not 0" */
    private static void setCalendarOnDayZeroAlone() {
        Check.refuses(() -> Offices.later(new Nominator(), 1), "setCalendar on day 1", STATE,
                o -> o.setCalendar(3, 5, 9));
        Check.refuses(() -> Offices.later(Offices.twoAreas(), 1), "setCalendar on day 1 with areas", STATE,
                o -> o.setCalendar(20, 25, 40));
        Check.refuses(() -> dayOf(0, 99), "setCalendar on day 99", STATE, o -> o.setCalendar(0, 0, 1));
    }

    private static Nominator onePaper() {
        Nominator office = Offices.twoAreas();
        Offices.file(office, 0, 1, "a");
        return office;
    }

    /** "or a paper has been filed" */
    private static void setCalendarBeforeAnyPaperAlone() {
        Check.answers(Offices::twoAreas, "setCalendar with areas and voters", 40, o -> o.setCalendar(3, 5, 9));
        Check.refuses(CalendarEdgesTest::onePaper, "setCalendar with a paper", STATE, o -> o.setCalendar(3, 5, 9));
        Check.refuses(() -> Offices.withdrawn(onePaper(), 0), "setCalendar with a paper that is withdrawn", STATE,
                o -> o.setCalendar(3, 5, 9));
        Check.refuses(Offices::full, "setCalendar with twelve papers", STATE, o -> o.setCalendar(3, 5, 9));
    }

    /** "A method that throws an exception changes nothing": neither of the three days. */
    private static void refusedCalendarIsNotKept() {
        Nominator office = Offices.twoAreas();
        office.setCalendar(1, 3, 5);
        Check.same("polling 61", Check.outcomeOf(() -> office.setCalendar(2, 4, 61)), "IllegalArgumentException");
        Check.same("a paper of day 0", Offices.file(office, 0, 2, "a"), 0);
        office.addVoter(0);
        office.sign(0, 0);
        office.sign(0, 1);
        office.pay(0, 500);
        Check.same("too late", Check.outcomeOf(() -> office.setCalendar(2, 4, 6)), "IllegalStateException");
        office.pass(1);
        Check.same("isOpen on the closing day", office.isOpen(), true);
        office.pass(1);
        Check.same("isOpen on the day after", office.isOpen(), false);
        Check.same("a death", office.die(0), true);
        office.pass(1);
        Check.same("isReplaceable on the last day for changes", office.isReplaceable(0), true);
        office.pass(1);
        Check.same("isReplaceable on the day after", office.isReplaceable(0), false);
        Check.same("finish on the day before polling", Check.outcomeOf(() -> office.finish(0)),
                "IllegalStateException");
        office.pass(1);
        Check.same("finish on the polling day", office.finish(0), 0);
    }

    /** "days: the number of days, 1 to 30" */
    private static void passRange() {
        Check.refuses(Nominator::new, "pass(0)", RANGE, o -> o.pass(0));
        Check.answers(Nominator::new, "pass(1)", 1, o -> o.pass(1));
        Check.answers(Nominator::new, "pass(30)", 30, o -> o.pass(30));
        Check.refuses(Nominator::new, "pass(31)", RANGE, o -> o.pass(31));
        Check.refuses(() -> Offices.later(new Nominator(), 5), "pass(-1)", RANGE, o -> o.pass(-1));
        Check.refuses(() -> Offices.later(new Nominator(), 5), "pass(-5)", RANGE, o -> o.pass(-5));
        Check.refuses(() -> Offices.later(new Nominator(), 5), "pass(largest)", RANGE, o -> o.pass(Integer.MAX_VALUE));
        Check.refuses(() -> Offices.later(new Nominator(), 5), "pass(least)", RANGE, o -> o.pass(Integer.MIN_VALUE));
    }

    /** "IllegalStateException if the present day would be greater than 99" */
    private static void passUpToDayNinetyNine() {
        Check.answers(() -> dayOf(3, 98), "pass(1) on day 98", 99, o -> o.pass(1));
        Check.refuses(() -> dayOf(3, 99), "pass(1) on day 99", STATE, o -> o.pass(1));
        Check.refuses(() -> dayOf(3, 98), "pass(2) on day 98", STATE, o -> o.pass(2));
        Check.answers(() -> dayOf(3, 69), "pass(30) on day 69", 99, o -> o.pass(30));
        Check.refuses(() -> dayOf(3, 70), "pass(30) on day 70", STATE, o -> o.pass(30));
        Check.answers(() -> dayOf(3, 70), "pass(29) on day 70", 99, o -> o.pass(29));
        Check.refuses(() -> dayOf(3, 99), "pass(30) on day 99", STATE, o -> o.pass(30));
    }

    /** "Lets days pass, one after the other." Many at once, over the close, are as many one by one. */
    private static void passIsOneDayAfterTheOther() {
        String due = Questions.answersOf(() -> {
            Nominator office = Offices.readyToClose();
            for (int k = 0; k < 30; k++) {
                office.pass(1);
            }
            return office;
        });
        Check.same("30 days at once", Questions.answersOf(() -> Offices.later(Offices.readyToClose(), 30)), due);
        Check.same("21 days and 9",
                Questions.answersOf(() -> Offices.later(Offices.later(Offices.readyToClose(), 21), 9)), due);
    }

    /** "The other calls are questions, which change nothing." */
    private static void dayAndIsOpenChangeNothing() {
        Check.asks(() -> dayOf(5, 99), "day 99", 99, o -> o.day());
        Check.asks(() -> dayOf(5, 5), "isOpen on the closing day 5", true, o -> o.isOpen());
        Check.asks(() -> dayOf(5, 6), "isOpen on the day after", false, o -> o.isOpen());
    }
}
