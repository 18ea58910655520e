import java.util.function.Function;

/**
 * What holds on each of the days 0 to 99, and which events are possible on it, in calendars with days next to each
 * other and far apart: "Calendar", "Standing", "Replacing" and "Deposits" among the terms, and the calls that ask for a
 * day.
 */
public final class EveryDayTest {
    private static final int LAST_DAY = 99;
    private static final int[][] CALENDARS = {{20, 25, 40}, {0, 0, 1}, {0, 59, 60}, {59, 59, 60}, {7, 9, 12},
        {0, 1, 2}, {29, 30, 31}, {30, 58, 60}};
    // The papers of each office.
    private static final int ACCEPTED = 0;
    private static final int TOO_FEW = 1;
    private static final int SHORT = 2;
    private static final int DOUBLE = 3;
    private static final int DEAD = 4;
    private static final int DEAD_INDEPENDENT = 5;
    private static final int WITHDRAWN = 6;

    private final int closing;
    private final int changes;
    private final int polling;
    private final int day;

    private EveryDayTest(int[] calendar, int day) {
        closing = calendar[0];
        changes = calendar[1];
        polling = calendar[2];
        this.day = day;
    }

    public static void main(String[] args) {
        for (int[] calendar : CALENDARS) {
            for (int day = 0; day <= LAST_DAY; day++) {
                EveryDayTest test = new EveryDayTest(calendar, day);
                test.questions();
                test.replaceable();
                test.deposits();
                test.sums();
                test.eventsWhileOpen();
                test.eventsOfCandidates();
                test.eventsAfterTheClose();
                test.eventsOnAnyDay();
                test.passing();
            }
        }
        Check.end();
    }

    /** On the day 0, with a paper of each kind; 100 have been paid for each of them but for one. */
    private Nominator dayZero() {
        Nominator office = new Nominator();
        office.setCalendar(closing, changes, polling);
        office.addArea(1, 100);
        Offices.addVoters(office, 0, 8);
        int[] parties = {1, 2, 3, 1, 4, Nominator.INDEPENDENT, 5};
        for (int k = 0; k < parties.length; k++) {
            Offices.file(office, 0, parties[k], "p" + (char) ('a' + k));
            office.pay(k, k == SHORT ? 99 : 100);
            if (k != TOO_FEW) {
                office.sign(k, k);
            }
        }
        office.die(DEAD);
        office.die(DEAD_INDEPENDENT);
        office.withdraw(WITHDRAWN);
        return office;
    }

    private Nominator today() {
        return Offices.later(dayZero(), day);
    }

    private boolean open() {
        return day <= closing;
    }

    private void same(String what, Object got, Object due) {
        Check.same("day " + day + " of " + closing + ", " + changes + ", " + polling + ": " + what, got, due);
    }

    /** The event answers so if it is possible, and otherwise throws IllegalStateException. */
    private void possible(String what, boolean possible, Object answer, Function<Nominator, Object> event) {
        Nominator office = today();
        same(what, Check.outcomeOf(() -> event.apply(office)), possible ? answer : "IllegalStateException");
    }

    /** No day changes what is final, nor what is asked about a paper for which nothing happens. */
    private void questions() {
        Nominator office = today();
        same("day", office.day(), day);
        same("isOpen", office.isOpen(), open());
        int[] reasons = {Nominator.STANDS, Nominator.TOO_FEW_SIGNATURES, Nominator.DEPOSIT_SHORT, Nominator.DOUBLE,
            Nominator.DEAD, Nominator.DEAD, Nominator.WITHDRAWN};
        for (int k = 0; k < reasons.length; k++) {
            same("reason(" + k + ")", office.reason(k), reasons[k]);
            same("reasonByReplay(" + k + ")", office.reasonByReplay(k), reasons[k]);
            same("counted(" + k + ")", office.counted(k), k == TOO_FEW || k == WITHDRAWN ? 0 : 1);
            same("paid(" + k + ")", office.paid(k), k == SHORT ? 99 : 100);
            same("votes(" + k + ")", office.votes(k), 0);
        }
        same("signatureResult(5)", office.signatureResult(5), Nominator.PAPER_WITHDRAWN);
        same("signatureResult(4)", office.signatureResult(4), Nominator.COUNTS);
        same("paperOf(3)", office.paperOf(3), 3);
        same("ballotSize", office.ballotSize(0), 1);
        same("papers", office.papers(), 7);
        same("signatures", office.signatures(), 6);
    }

    private void replaceable() {
        boolean dead = day <= changes;
        boolean[] due = {open(), open(), open(), open(), dead, false, false};
        for (int k = 0; k < due.length; k++) {
            int paper = k;
            same("isReplaceable(" + k + ")", today().isReplaceable(k), due[k]);
            possible("replace(" + k + ")", due[k], 1, o -> Offices.replace(o, paper, "new"));
        }
    }

    private int[] dueDeposits() {
        int rejected = open() ? Nominator.HELD : Nominator.RETURNED;
        int dead = day <= changes ? Nominator.HELD : Nominator.RETURNED;
        return new int[] {Nominator.HELD, rejected, rejected, rejected, dead, rejected, Nominator.RETURNED};
    }

    private void deposits() {
        Nominator office = today();
        for (int k = 0; k < dueDeposits().length; k++) {
            same("deposit(" + k + ")", office.deposit(k), dueDeposits()[k]);
        }
        if (day <= changes) {
            same("deposit, withdrawn today", Offices.withdrawn(today(), ACCEPTED).deposit(ACCEPTED),
                    open() ? Nominator.RETURNED : Nominator.LOST);
        }
        if (day >= polling) {
            same("deposit, finished today", Offices.finished(today(), 0).deposit(ACCEPTED), Nominator.RETURNED);
        }
    }

    private void sums() {
        int held = 0;
        for (int k = 0; k < dueDeposits().length; k++) {
            held += dueDeposits()[k] == Nominator.HELD ? k == SHORT ? 99 : 100 : 0;
        }
        same("sumHeld", today().sumHeld(), held);
        same("sumLost", today().sumLost(), 0);
        same("lostShare", today().lostShare(), 0f);
    }

    private void eventsWhileOpen() {
        possible("file", open(), 7, o -> Offices.file(o, 0, 6, "new"));
        possible("sign", open(), 6, o -> o.sign(TOO_FEW, 7));
        possible("pay", open(), 100, o -> o.pay(SHORT, 1));
        possible("wouldCount", open(), true, o -> o.wouldCount(TOO_FEW, 7));
        possible("gain", open(), 0, o -> o.gain(TOO_FEW, ACCEPTED));
        possible("fewestWithdrawals", open(), 0, o -> o.fewestWithdrawals(DOUBLE));
        possible("setCalendar", false, 0, o -> o.setCalendar(20, 25, 40));
        Nominator empty = Offices.later(new Nominator(), day);
        same("setCalendar without papers", Check.outcomeOf(() -> empty.setCalendar(1, 2, 3)),
                day == 0 ? 40 : "IllegalStateException");
    }

    private void eventsOfCandidates() {
        possible("withdraw of what is or will be accepted", day <= changes, 0, o -> o.withdraw(ACCEPTED));
        possible("withdraw of the dead", day <= changes, 0, o -> o.withdraw(DEAD));
        possible("withdraw once more", false, 0, o -> o.withdraw(WITHDRAWN));
        possible("die, accepted", day < polling, day <= changes, o -> o.die(ACCEPTED));
        possible("die once more", false, 0, o -> o.die(DEAD));
        possible("die, withdrawn", false, 0, o -> o.die(WITHDRAWN));
        for (int k : new int[] {TOO_FEW, SHORT, DOUBLE}) {
            possible("withdraw of what is or will be rejected, " + k, open(), 0, o -> o.withdraw(k));
            possible("die, what is or will be rejected, " + k, open(), true, o -> o.die(k));
            possible("addVotes, rejected, " + k, false, 0, o -> o.addVotes(k, 1));
        }
    }

    private void eventsAfterTheClose() {
        possible("draw", !open(), 'r', o -> o.draw(7));
        possible("letter", false, 0, o -> o.letter(0));
        possible("ballot", false, 0, o -> o.ballot(0, 0, 0));
        possible("draw and ballot", !open(), ACCEPTED, o -> Offices.drawn(o, 7).ballot(0, 9, 0));
        possible("draw and placeOnBallot", !open(), 0, o -> Offices.drawn(o, 7).placeOnBallot(ACCEPTED, 9));
        possible("addVotes", day >= polling, 1, o -> o.addVotes(ACCEPTED, 1));
        possible("addVotes, dead", false, 0, o -> o.addVotes(DEAD, 1));
        possible("finish", day >= polling, 0, o -> o.finish(0));
        possible("winner", false, 0, o -> o.winner(0));
        possible("finish and winner", day >= polling, ACCEPTED, o -> Offices.finished(o, 0).winner(0));
    }

    private void eventsOnAnyDay() {
        possible("addArea", true, 1, o -> o.addArea(1, 0));
        possible("addVoter", true, 8, o -> o.addVoter(0));
        possible("strike", true, 7, o -> o.strike(0));
        possible("strike and restore", true, 8, o -> Offices.struckOff(o, 0).restore(0));
        Nominator office = today();
        office.addArea(1, 0);
        same("move", office.move(0, 1), 0);
        Nominator struck = Offices.struckOff(today(), ACCEPTED);
        same("reason, a signer struck off today", struck.reason(ACCEPTED),
                open() ? Nominator.TOO_FEW_SIGNATURES : Nominator.STANDS);
        same("reason of the double, the same", struck.reason(DOUBLE), open() ? Nominator.STANDS : Nominator.DOUBLE);
        same("reasonByReplay, the same", struck.reasonByReplay(ACCEPTED), struck.reason(ACCEPTED));
    }

    private void passing() {
        for (int days : new int[] {1, 2, 29, 30}) {
            possible("pass(" + days + ")", day + days <= LAST_DAY, day + days, o -> o.pass(days));
        }
    }
}
