import java.util.function.Consumer;

/** Offices for the tests, each made anew by the same calls. */
final class Offices {
    private Offices() {
    }

    /** Area 0 needs 2 signatures and 500, area 1 one and nothing; voters 0 to 3 are in area 0, 4 and 5 in area 1. */
    static Nominator twoAreas() {
        Nominator office = new Nominator();
        office.addArea(2, 500);
        office.addArea(1, 0);
        addVoters(office, 0, 4);
        addVoters(office, 1, 2);
        return office;
    }

    /** In area 0 the papers 0 (party 1), 1 (party 2) and 2 (independent), in area 1 the paper 3 (party 1). */
    static Nominator fourPapers() {
        Nominator office = twoAreas();
        file(office, 0, 1, "abel");
        file(office, 0, 2, "bo");
        file(office, 0, Nominator.INDEPENDENT, "cy");
        file(office, 1, 1, "dee");
        return office;
    }

    /** The paper 0 is acceptable, the paper 1 lacks signatures, the paper 2 lacks money, the paper 3 is acceptable. */
    static Nominator readyToClose() {
        Nominator office = fourPapers();
        office.pay(0, 500);
        office.pay(1, 500);
        office.pay(2, 499);
        office.sign(0, 0);
        office.sign(0, 1);
        office.sign(2, 2);
        office.sign(2, 3);
        office.sign(3, 4);
        return office;
    }

    /** The papers 0 and 3 are accepted, the papers 1 and 2 are rejected; the present day is 21. */
    static Nominator closed() {
        return later(readyToClose(), 21);
    }

    /** The day after the last one for changes. */
    static Nominator afterChanges() {
        return later(closed(), 5);
    }

    static Nominator pollingDay() {
        return later(closed(), 19);
    }

    /** The last day on which the office is open. */
    static Nominator closingDay() {
        return later(readyToClose(), 20);
    }

    /** The last day for changes, after the close. */
    static Nominator lastDayForChanges() {
        return later(closed(), 4);
    }

    static Nominator dayBeforePolling() {
        return later(closed(), 18);
    }

    static Nominator lastDay() {
        return later(later(pollingDay(), 30), 29);
    }

    /**
     * With all that there can be, on day 0: 5 areas, of which the area k needs k + 1 signatures and 250 * k; 40 voters,
     * the voter k in the area k % 5; 12 papers, the paper k in the area k % 5; and 150 signatures, all of them local.
     * That takes 207 calls.
     */
    static Nominator full() {
        Nominator office = new Nominator();
        for (int k = 0; k < 5; k++) {
            office.addArea(k + 1, 250 * k);
        }
        for (int k = 0; k < 40; k++) {
            office.addVoter(k % 5);
        }
        for (int k = 0; k < 12; k++) {
            file(office, k % 5, k % 9 - 1, "n" + (char) ('a' + k));
        }
        for (int k = 0; k < 150; k++) {
            int paper = k % 12;
            office.sign(paper, paper % 5 + 5 * (k / 12 % 8));
        }
        return office;
    }

    /** One area, which needs one signature and no money: a paper for each party, signed by a voter of its own. */
    static Nominator standing(int... parties) {
        Nominator office = new Nominator();
        office.addArea(1, 0);
        addVoters(office, 0, parties.length);
        for (int k = 0; k < parties.length; k++) {
            file(office, 0, parties[k], "a");
            office.sign(k, k);
        }
        return office;
    }

    /** With one paper of the party 4, which is acceptable, on this day of a calendar of its own. */
    static Nominator ofCalendar(int closing, int changes, int polling, int day) {
        Nominator office = new Nominator();
        office.setCalendar(closing, changes, polling);
        office.addArea(1, 0);
        office.addVoter(0);
        file(office, 0, 4, "a");
        office.sign(0, 0);
        return later(office, day);
    }

    static Nominator changed(Nominator office, Consumer<Nominator> change) {
        change.accept(office);
        return office;
    }

    static Nominator replaced(Nominator office, int paper, int times) {
        for (int k = 0; k < times; k++) {
            replace(office, paper, "x" + (char) ('a' + k));
        }
        return office;
    }

    static Nominator struckOff(Nominator office, int voter) {
        office.strike(voter);
        return office;
    }

    static Nominator closed(Nominator office) {
        return later(office, 21 - office.day());
    }

    static Nominator pollingDay(Nominator office) {
        return later(closed(office), 19);
    }

    /** At most 30 days pass at once. */
    static Nominator later(Nominator office, int days) {
        for (int left = days; left > 0; left -= 30) {
            office.pass(Math.min(left, 30));
        }
        return office;
    }

    static Nominator withdrawn(Nominator office, int paper) {
        office.withdraw(paper);
        return office;
    }

    static Nominator dead(Nominator office, int paper) {
        office.die(paper);
        return office;
    }

    static Nominator drawn(Nominator office, int seed) {
        office.draw(seed);
        return office;
    }

    static Nominator finished(Nominator office, int area) {
        office.finish(area);
        return office;
    }

    static void addVoters(Nominator office, int area, int count) {
        for (int k = 0; k < count; k++) {
            office.addVoter(area);
        }
    }

    static int file(Nominator office, int area, int party, String name) {
        String full = padded(name);
        return office.file(area, party, full.charAt(0), full.charAt(1), full.charAt(2), full.charAt(3));
    }

    static int replace(Nominator office, int paper, String name) {
        String full = padded(name);
        return office.replace(paper, full.charAt(0), full.charAt(1), full.charAt(2), full.charAt(3));
    }

    static String nameOf(Nominator office, int paper) {
        StringBuilder name = new StringBuilder();
        for (int k = 0; k < 4; k++) {
            name.append(office.surname(paper, k));
        }
        return name.toString();
    }

    /** A name that is shorter than four characters, with blanks behind it. */
    private static String padded(String name) {
        return (name + "    ").substring(0, 4);
    }
}
