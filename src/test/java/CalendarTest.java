/** Promises 1 to 5. */
public final class CalendarTest {
    private CalendarTest() {
    }

    public static void main(String[] args) {
        newObject();
        setCalendar();
        setCalendarRefuses();
        pass();
        passRefuses();
        closeOfTheOffice();
        Check.end();
    }

    private static void newObject() {
        Nominator office = new Nominator();
        Check.same("day of a new office", office.day(), 0);
        Check.same("isOpen of a new office", office.isOpen(), true);
        Check.same("papers of a new office", office.papers(), 0);
        Check.same("signatures of a new office", office.signatures(), 0);
        Check.same("sumHeld of a new office", office.sumHeld(), 0);
        Check.same("sumLost of a new office", office.sumLost(), 0);
        Check.refuses(Nominator::new, "areas of a new office", IndexOutOfBoundsException.class, o -> o.ballotSize(0));
        Check.refuses(Nominator::new, "voters of a new office", IndexOutOfBoundsException.class, o -> o.areaOf(0));
        Check.refuses(Nominator::new, "papers of a new office", IndexOutOfBoundsException.class, o -> o.reason(0));
    }

    private static void setCalendar() {
        Nominator office = new Nominator();
        Check.same("first setCalendar", office.setCalendar(0, 0, 1), 40);
        Check.same("second setCalendar", office.setCalendar(3, 59, 60), 1);
        office.addArea(1, 0);
        office.addVoter(0);
        Check.same("setCalendar after areas and voters", office.setCalendar(2, 4, 6), 60);
        Check.same("pass to the closing day", office.pass(2), 2);
        Check.same("isOpen on the closing day", office.isOpen(), true);
        office.pass(1);
        Check.same("isOpen after the closing day", office.isOpen(), false);
    }

    private static void setCalendarRefuses() {
        Class<IllegalArgumentException> range = IllegalArgumentException.class;
        Check.refuses(Nominator::new, "closing -1", range, o -> o.setCalendar(-1, 5, 9));
        Check.refuses(Nominator::new, "changes before closing", range, o -> o.setCalendar(5, 4, 9));
        Check.refuses(Nominator::new, "polling on the last day for changes", range, o -> o.setCalendar(3, 5, 5));
        Check.refuses(Nominator::new, "polling 61", range, o -> o.setCalendar(3, 5, 61));
        Check.refuses(Nominator::new, "largest days", range,
                o -> o.setCalendar(Integer.MAX_VALUE, Integer.MAX_VALUE, Integer.MAX_VALUE));
        Check.refuses(() -> Offices.later(new Nominator(), 1), "setCalendar on day 1", IllegalStateException.class,
                o -> o.setCalendar(3, 5, 9));
        Check.refuses(Offices::fourPapers, "setCalendar after a paper", IllegalStateException.class,
                o -> o.setCalendar(3, 5, 9));
        Check.refuses(Offices::fourPapers, "setCalendar after a paper, day out of range", range,
                o -> o.setCalendar(3, 2, 9));
        Check.refuses(CalendarTest::onePaper, "setCalendar after one paper", IllegalStateException.class,
                o -> o.setCalendar(3, 5, 9));
        Nominator office = new Nominator();
        Check.same("a refused setCalendar", Check.outcomeOf(() -> office.setCalendar(9, 9, 9)),
                "IllegalArgumentException");
        Check.same("setCalendar after a refused one", office.setCalendar(1, 2, 3), 40);
    }

    private static Nominator onePaper() {
        Nominator office = Offices.twoAreas();
        Offices.file(office, 0, 1, "a");
        return office;
    }

    private static void pass() {
        Nominator office = new Nominator();
        Check.same("pass(1)", office.pass(1), 1);
        Check.same("pass(30)", office.pass(30), 31);
        Check.same("day after pass", office.day(), 31);
        office.pass(30);
        office.pass(30);
        Check.same("pass to day 99", office.pass(8), 99);
    }

    private static void passRefuses() {
        Class<IllegalArgumentException> range = IllegalArgumentException.class;
        Check.refuses(Nominator::new, "pass(0)", range, o -> o.pass(0));
        Check.refuses(Nominator::new, "pass(-1)", range, o -> o.pass(-1));
        Check.refuses(Nominator::new, "pass(31)", range, o -> o.pass(31));
        Check.refuses(Nominator::new, "pass(largest)", range, o -> o.pass(Integer.MAX_VALUE));
        Check.refuses(CalendarTest::lastDay, "pass(1) on day 99", IllegalStateException.class, o -> o.pass(1));
        Check.refuses(CalendarTest::lastDay, "pass(31) on day 99", range, o -> o.pass(31));
        Check.refuses(() -> Offices.later(Offices.later(Offices.later(new Nominator(), 30), 30), 10),
                "pass(30) on day 70", IllegalStateException.class, o -> o.pass(30));
    }

    private static Nominator lastDay() {
        Nominator office = new Nominator();
        office.pass(30);
        office.pass(30);
        office.pass(30);
        office.pass(9);
        return office;
    }

    private static void closeOfTheOffice() {
        Nominator office = new Nominator();
        office.pass(20);
        Check.same("isOpen on day 20", office.isOpen(), true);
        office.pass(1);
        Check.same("isOpen on day 21", office.isOpen(), false);
    }
}
