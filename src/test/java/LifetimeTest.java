import java.util.function.Function;
import java.util.function.Supplier;

/** "An object is used for at most 512 calls after it has been made": the last of them answers as the first ones do. */
public final class LifetimeTest {
    private static final int CALLS = 512;
    // The calls that Offices.readyToClose() makes.
    private static final int READY_TO_CLOSE = 20;

    private LifetimeTest() {
    }

    public static void main(String[] args) {
        lastCallAfterQuestions();
        lastEventAfterQuestions();
        lastCallAfterRefusals();
        replayOfAsManyEventsAsCanBe();
        replayOverTheCloseAtTheEnd();
        replayOfTheLastEvent();
        replayAsOftenAsCanBe();
        setCalendarAsOftenAsCanBe();
        theLastOfAll();
        laterCallsDoNotFail();
        papersAfterTheLastCall();
        Check.end();
    }

    /** Questions until so many calls are left; the recipe has made that many. */
    private static Nominator asked(Nominator office, int made, int left) {
        for (int k = made; k < CALLS - left; k++) {
            office.day();
        }
        return office;
    }

    private static void last(Supplier<Nominator> recipe, int made, String what, Object due,
            Function<Nominator, Object> call) {
        Nominator office = asked(recipe.get(), made, 1);
        Check.same(what + " as the last call", Check.outcomeOf(() -> call.apply(office)), due);
    }

    private static void lastCallAfterQuestions() {
        last(Nominator::new, 0, "day", 0, o -> o.day());
        last(Offices::readyToClose, READY_TO_CLOSE, "reason", Nominator.STANDS, o -> o.reason(0));
        last(Offices::readyToClose, READY_TO_CLOSE, "reasonByReplay", Nominator.STANDS, o -> o.reasonByReplay(0));
        last(Offices::readyToClose, READY_TO_CLOSE, "fewestWithdrawals", 0, o -> o.fewestWithdrawals(0));
        last(Offices::closed, READY_TO_CLOSE + 1, "letter", "IllegalStateException", o -> o.letter(0));
        last(Offices::closed, READY_TO_CLOSE + 1, "sumHeld", 500, o -> o.sumHeld());
        last(Offices::closed, READY_TO_CLOSE + 1, "lostShare", 0f, o -> o.lostShare());
    }

    private static void lastEventAfterQuestions() {
        last(Nominator::new, 0, "setCalendar", 40, o -> o.setCalendar(0, 0, 1));
        last(Nominator::new, 0, "pass", 30, o -> o.pass(30));
        last(Nominator::new, 0, "addArea", 0, o -> o.addArea(1, 0));
        last(Offices::readyToClose, READY_TO_CLOSE, "addVoter", 6, o -> o.addVoter(0));
        last(Offices::readyToClose, READY_TO_CLOSE, "move", 0, o -> o.move(0, 1));
        last(Offices::readyToClose, READY_TO_CLOSE, "strike", 5, o -> o.strike(0));
        last(Offices::readyToClose, READY_TO_CLOSE, "file", 4, o -> Offices.file(o, 0, 0, "a"));
        last(Offices::readyToClose, READY_TO_CLOSE, "sign", 5, o -> o.sign(0, 0));
        last(Offices::readyToClose, READY_TO_CLOSE, "pay", 501, o -> o.pay(0, 1));
        last(Offices::readyToClose, READY_TO_CLOSE, "withdraw", 0, o -> o.withdraw(0));
        last(Offices::readyToClose, READY_TO_CLOSE, "die", true, o -> o.die(0));
        last(Offices::readyToClose, READY_TO_CLOSE, "replace", 1, o -> Offices.replace(o, 0, "a"));
        last(Offices::closed, READY_TO_CLOSE + 1, "draw", 'r', o -> o.draw(7));
        last(Offices::pollingDay, READY_TO_CLOSE + 2, "addVotes", 5, o -> o.addVotes(0, 5));
        last(Offices::pollingDay, READY_TO_CLOSE + 2, "finish", 0, o -> o.finish(0));
    }

    /** Refused calls are calls, too, and change nothing, however many they are. */
    private static void lastCallAfterRefusals() {
        Nominator office = Offices.readyToClose();
        for (int k = READY_TO_CLOSE; k < CALLS - 3; k++) {
            Check.same("a refused call", Check.outcomeOf(() -> office.addArea(0, 0)), "IllegalArgumentException");
        }
        Check.same("an event", office.addArea(1, 0), 2);
        Check.same("reasonByReplay", office.reasonByReplay(2), Nominator.DEPOSIT_SHORT);
        Check.same("reasonByReplay as the last call", office.reasonByReplay(0), Nominator.STANDS);
    }

    /** 511 events; the last of them decides. */
    private static void replayOfAsManyEventsAsCanBe() {
        Nominator office = new Nominator();
        office.addArea(1, 507);
        office.addVoter(0);
        Offices.file(office, 0, 0, "a");
        office.sign(0, 0);
        for (int k = 1; k <= 507; k++) {
            Check.same("pay number " + k, office.pay(0, 1), k);
        }
        Check.same("the call 512", office.reasonByReplay(0), Nominator.STANDS);
    }

    /** The same, and the close is the last event but one. */
    private static void replayOverTheCloseAtTheEnd() {
        Nominator office = new Nominator();
        office.addArea(1, 0);
        office.addArea(1, 0);
        office.addVoter(0);
        Offices.file(office, 0, 0, "a");
        office.sign(0, 0);
        for (int k = 0; k < 502; k++) {
            office.move(0, k % 2 == 0 ? 1 : 0);
        }
        office.strike(0);
        office.pass(30);
        office.restore(0);
        office.addArea(1, 0);
        Check.same("the call 512", office.reasonByReplay(0), Nominator.TOO_FEW_SIGNATURES);
    }

    /** The call 511 is an event that is seen in the replay. */
    private static void replayOfTheLastEvent() {
        Nominator office = asked(Offices.readyToClose(), READY_TO_CLOSE, 2);
        office.withdraw(0);
        Check.same("the call 512 after a withdrawal", office.reasonByReplay(0), Nominator.WITHDRAWN);
        Nominator struck = Offices.readyToClose();
        for (int k = READY_TO_CLOSE; k < CALLS - 1; k++) {
            Check.same("strike and restore", k % 2 == 0 ? struck.strike(0) : struck.restore(0), k % 2 == 0 ? 5 : 6);
        }
        Check.same("the call 512 after many", struck.reasonByReplay(0), Nominator.TOO_FEW_SIGNATURES);
    }

    private static void replayAsOftenAsCanBe() {
        Nominator office = Offices.full();
        for (int k = 207; k < CALLS; k++) {
            Check.same("reasonByReplay, call " + (k + 1), office.reasonByReplay(k % 12),
                    k % 12 == 0 ? Nominator.STANDS : reasonOf(k % 12));
        }
    }

    /** In the office with all there can be, the area 0 alone needs no money, where the paper 0 takes all signers. */
    private static int reasonOf(int paper) {
        return paper % 5 == 0 ? Nominator.TOO_FEW_SIGNATURES : Nominator.DEPOSIT_SHORT;
    }

    private static void setCalendarAsOftenAsCanBe() {
        Nominator office = new Nominator();
        int before = 40;
        for (int k = 0; k < CALLS; k++) {
            int polling = 2 + k % 59;
            Check.same("setCalendar, call " + (k + 1), office.setCalendar(0, 1, polling), before);
            before = polling;
        }
    }

    /** All there can be, with the close, the draw, votes and the end of the count: 512 calls in all. */
    private static void theLastOfAll() {
        Nominator office = Offices.full();
        office.pass(21);
        office.draw(7);
        office.pass(19);
        for (int k = 0; k < 296; k++) {
            Check.same("addVotes number " + (k + 1), office.addVotes(0, 10000), 10000 * (k + 1));
        }
        Check.same("finish", office.finish(0), 0);
        Check.same("winner", office.winner(0), 0);
        Check.same("share", office.share(0), 1.0);
        Check.same("ballot", office.ballot(0, 999, 0), 0);
        Check.same("reasonByReplay of the paper 11", office.reasonByReplay(11), Nominator.DEPOSIT_SHORT);
        Check.same("reasonByReplay of the paper 0, the call 512", office.reasonByReplay(0), Nominator.STANDS);
    }

    /**
     * "what later calls answer is free", but no call may throw what the machine throws (rule 7 of LANGUAGE.md), which
     * Check.outcomeOf looks for.
     */
    private static void laterCallsDoNotFail() {
        Nominator office = new Nominator();
        for (int k = 0; k < 3 * CALLS; k++) {
            int number = k % 13;
            Check.outcomeOf(() -> office.addArea(1, 0));
            Check.outcomeOf(() -> office.addVoter(number % 5));
            Check.outcomeOf(() -> Offices.file(office, number % 5, number - 1, "a"));
            Check.outcomeOf(() -> office.sign(number, number));
            Check.outcomeOf(() -> office.pay(number, 1000));
            Check.outcomeOf(() -> office.reasonByReplay(number));
            Check.outcomeOf(() -> office.fewestWithdrawals(number));
        }
        Check.same("papers", office.papers(), 12);
        Check.same("signatures", office.signatures(), 150);
        Offices.later(office, 40);
        for (int k = 0; k < 12; k++) {
            int number = k;
            Check.outcomeOf(() -> office.draw(number));
            Check.outcomeOf(() -> office.addVotes(number, 10000));
            Check.outcomeOf(() -> office.finish(number));
            Check.outcomeOf(() -> office.winner(number));
            Check.outcomeOf(() -> office.ballot(number, 999, 0));
            Check.outcomeOf(() -> office.reasonByReplay(number));
        }
        Check.same("day", office.day(), 40);
    }

    /** Also if what no replay can know any more came after the last event that is written down. */
    private static void papersAfterTheLastCall() {
        Nominator office = new Nominator();
        office.addArea(1, 0);
        office.addVoter(0);
        for (int k = 0; k < CALLS; k++) {
            Check.same("strike and restore", k % 2 == 0 ? office.strike(0) : office.restore(0), k % 2);
        }
        Offices.file(office, 0, 1, "a");
        Check.outcomeOf(() -> office.reasonByReplay(0));
        Check.same("papers after the last call", office.papers(), 1);
    }
}
