/** Promises 22 to 28. */
public final class SignaturesTest {
    private static final Class<IndexOutOfBoundsException> NOT_THERE = IndexOutOfBoundsException.class;
    private static final Class<IllegalStateException> STATE = IllegalStateException.class;

    private SignaturesTest() {
    }

    public static void main(String[] args) {
        counted();
        results();
        firstReasonApplies();
        resultsStayAfterTheClose();
        wouldCount();
        paperOf();
        gain();
        fewestWithdrawals();
        smallestSetOfSeveral();
        setsLeaveUselessPapersOut();
        allOtherPapers();
        signatures();
        Check.end();
    }

    private static void counted() {
        Nominator office = Offices.fourPapers();
        office.sign(0, 0);
        office.sign(0, 0);
        office.sign(0, 4);
        office.sign(0, 1);
        office.sign(1, 1);
        Check.same("counted of the paper 0", office.counted(0), 2);
        Check.same("counted of the paper 1", office.counted(1), 0);
        office.strike(1);
        Check.same("counted without a voter who is struck off", office.counted(0), 1);
        office.restore(1);
        Check.same("counted with a voter who is restored", office.counted(0), 2);
        office.move(1, 1);
        Check.same("counted after a voter has moved", office.counted(0), 2);
        Check.asks(Offices::readyToClose, "counted(2)", 2, o -> o.counted(2));
        Check.refuses(Offices::fourPapers, "counted(4)", NOT_THERE, o -> o.counted(4));
        Check.refuses(Offices::fourPapers, "counted(-1)", NOT_THERE, o -> o.counted(-1));
    }

    private static void results() {
        Nominator office = Offices.fourPapers();
        office.sign(0, 4);
        office.move(4, 0);
        Check.same("a signature from another area stays so", office.signatureResult(0), Nominator.NOT_LOCAL);
        office.sign(0, 4);
        Check.same("a signature after the move", office.signatureResult(1), Nominator.COUNTS);
        office.strike(1);
        office.sign(0, 1);
        office.restore(1);
        Check.same("a signature of one who was struck off", office.signatureResult(2), Nominator.NOT_LOCAL);
        office.sign(1, 1);
        Check.same("the signature after the restoration", office.signatureResult(3), Nominator.COUNTS);
        office.sign(2, 1);
        Check.same("a signature for a second paper", office.signatureResult(4), Nominator.SIGNED_EARLIER);
        office.strike(1);
        Check.same("a signature of one who is struck off", office.signatureResult(3), Nominator.STRUCK_OFF);
        Check.same("his other signature", office.signatureResult(4), Nominator.STRUCK_OFF);
        office.restore(1);
        office.withdraw(1);
        Check.same("a signature for a withdrawn paper", office.signatureResult(3), Nominator.PAPER_WITHDRAWN);
        Check.same("the one that it blocked", office.signatureResult(4), Nominator.COUNTS);
        Check.refuses(Offices::readyToClose, "signatureResult(5)", NOT_THERE, o -> o.signatureResult(5));
        Check.refuses(Offices::readyToClose, "signatureResult(-1)", NOT_THERE, o -> o.signatureResult(-1));
        Check.asks(Offices::readyToClose, "signatureResult(4)", Nominator.COUNTS, o -> o.signatureResult(4));
    }

    private static void firstReasonApplies() {
        Nominator office = Offices.fourPapers();
        office.sign(0, 0);
        office.sign(1, 0);
        office.sign(1, 4);
        office.withdraw(1);
        Check.same("withdrawn and signed earlier", office.signatureResult(1), Nominator.PAPER_WITHDRAWN);
        Check.same("withdrawn and not local", office.signatureResult(2), Nominator.NOT_LOCAL);
        office.strike(0);
        office.strike(4);
        Check.same("struck off and withdrawn", office.signatureResult(1), Nominator.STRUCK_OFF);
        Check.same("not local and struck off", office.signatureResult(2), Nominator.NOT_LOCAL);
    }

    private static void resultsStayAfterTheClose() {
        Nominator office = Offices.readyToClose();
        office.sign(1, 0);
        office.pass(21);
        office.strike(0);
        office.withdraw(0);
        Check.same("result after the close", office.signatureResult(0), Nominator.COUNTS);
        Check.same("blocked result after the close", office.signatureResult(5), Nominator.SIGNED_EARLIER);
        Check.same("counted after the close", office.counted(0), 2);
        Check.same("paperOf after the close", office.paperOf(0), 0);
        office = Offices.readyToClose();
        office.strike(0);
        office.pass(20);
        office.restore(0);
        Check.same("restored on the closing day", office.signatureResult(0), Nominator.COUNTS);
        office.strike(0);
        office.pass(30);
        office.restore(0);
        Check.same("restored after the close", office.signatureResult(0), Nominator.STRUCK_OFF);
        Check.same("counted of the restored", office.counted(0), 1);
    }

    private static void wouldCount() {
        Check.asks(Offices::readyToClose, "a voter who has signed", false, o -> o.wouldCount(1, 0));
        Check.asks(Offices::readyToClose, "a voter who has not signed", true, o -> o.wouldCount(3, 5));
        Check.asks(Offices::readyToClose, "a voter of another area", false, o -> o.wouldCount(1, 5));
        Check.asks(() -> Offices.withdrawn(Offices.readyToClose(), 0), "signed for a withdrawn paper", true,
                o -> o.wouldCount(1, 0));
        Nominator office = Offices.fourPapers();
        office.sign(3, 0);
        Check.same("a signature that is not local does not block", office.wouldCount(0, 0), true);
        office.strike(0);
        Check.same("a voter who is struck off", office.wouldCount(0, 0), false);
        Check.refuses(Offices::fourPapers, "wouldCount(4, 0)", NOT_THERE, o -> o.wouldCount(4, 0));
        Check.refuses(Offices::fourPapers, "wouldCount(-1, 0)", NOT_THERE, o -> o.wouldCount(-1, 0));
        Check.refuses(Offices::fourPapers, "wouldCount(0, 6)", NOT_THERE, o -> o.wouldCount(0, 6));
        Check.refuses(Offices::fourPapers, "wouldCount(0, -1)", NOT_THERE, o -> o.wouldCount(0, -1));
        Check.refuses(Offices::closed, "wouldCount after the close", STATE, o -> o.wouldCount(0, 0));
        Check.refuses(() -> Offices.withdrawn(Offices.fourPapers(), 1), "wouldCount for a withdrawn paper", STATE,
                o -> o.wouldCount(1, 0));
    }

    private static void paperOf() {
        Check.asks(Offices::readyToClose, "paperOf(2)", 2, o -> o.paperOf(2));
        Check.refuses(Offices::readyToClose, "paperOf(6)", NOT_THERE, o -> o.paperOf(6));
        Check.refuses(Offices::readyToClose, "paperOf(-1)", NOT_THERE, o -> o.paperOf(-1));
        Check.refuses(Offices::readyToClose, "paperOf one who has not signed",
                java.util.NoSuchElementException.class, o -> o.paperOf(5));
        Nominator office = Offices.readyToClose();
        office.sign(1, 0);
        Check.same("paperOf one who has signed twice", office.paperOf(0), 0);
        office.withdraw(0);
        Check.same("paperOf after the withdrawal", office.paperOf(0), 1);
        office.strike(0);
        Nominator struck = office;
        Check.same("paperOf one who is struck off", Check.outcomeOf(() -> struck.paperOf(0)),
                "NoSuchElementException");
    }

    /** Voters 0 to 3 sign the paper 2 after some of the papers 0 and 1, and after the paper 3 of another area. */
    private static Nominator blocked() {
        Nominator office = Offices.fourPapers();
        office.sign(0, 0);
        office.sign(0, 1);
        office.sign(1, 1);
        office.sign(1, 2);
        office.move(3, 1);
        office.sign(3, 3);
        office.move(3, 0);
        for (int k = 0; k < 4; k++) {
            office.sign(2, k);
        }
        return office;
    }

    private static void gain() {
        Check.asks(SignaturesTest::blocked, "gain(2, 0)", 1, o -> o.gain(2, 0));
        Check.asks(SignaturesTest::blocked, "gain(2, 1)", 1, o -> o.gain(2, 1));
        Check.asks(SignaturesTest::blocked, "gain from another area", 1, o -> o.gain(2, 3));
        Check.asks(SignaturesTest::blocked, "gain(1, 0)", 1, o -> o.gain(1, 0));
        Check.asks(SignaturesTest::blocked, "gain(0, 2)", 0, o -> o.gain(0, 2));
        Check.asks(() -> Offices.withdrawn(blocked(), 0), "gain(2, 1) after a withdrawal", 2, o -> o.gain(2, 1));
        Check.asks(() -> Offices.withdrawn(blocked(), 0), "gain from a withdrawn paper", 0, o -> o.gain(2, 0));
        Nominator office = blocked();
        office.strike(0);
        Check.same("gain from a voter who is struck off", office.gain(2, 0), 0);
        Check.refuses(SignaturesTest::blocked, "gain(4, 4)", NOT_THERE, o -> o.gain(4, 4));
        Check.refuses(SignaturesTest::blocked, "gain(-1, 0)", NOT_THERE, o -> o.gain(-1, 0));
        Check.refuses(SignaturesTest::blocked, "gain(0, 4)", NOT_THERE, o -> o.gain(0, 4));
        Check.refuses(SignaturesTest::blocked, "gain(0, -1)", NOT_THERE, o -> o.gain(0, -1));
        Check.refuses(Offices::closed, "gain(1, 1) after the close", IllegalArgumentException.class,
                o -> o.gain(1, 1));
        Check.refuses(Offices::closed, "gain after the close", STATE, o -> o.gain(0, 1));
        Check.refuses(() -> Offices.withdrawn(blocked(), 0), "gain of a withdrawn paper", STATE, o -> o.gain(0, 1));
    }

    private static void fewestWithdrawals() {
        Check.asks(Offices::readyToClose, "enough signatures", 0, o -> o.fewestWithdrawals(0));
        Check.asks(SignaturesTest::blocked, "paper 1 needs paper 0 to go", 1, o -> o.fewestWithdrawals(1));
        Check.asks(SignaturesTest::blocked, "paper 2 needs two to go", 3, o -> o.fewestWithdrawals(2));
        Check.asks(() -> Offices.withdrawn(blocked(), 0), "one is withdrawn already", 2,
                o -> o.fewestWithdrawals(2));
        Class<java.util.NoSuchElementException> none = java.util.NoSuchElementException.class;
        Check.refuses(Offices::readyToClose, "no such set", none, o -> o.fewestWithdrawals(1));
        Check.refuses(Offices::fourPapers, "no signatures", none, o -> o.fewestWithdrawals(3));
        Check.refuses(SignaturesTest::signedTwice, "two signatures of one voter", none, o -> o.fewestWithdrawals(1));
        Check.refuses(Offices::fourPapers, "fewestWithdrawals(4)", NOT_THERE, o -> o.fewestWithdrawals(4));
        Check.refuses(Offices::fourPapers, "fewestWithdrawals(-1)", NOT_THERE, o -> o.fewestWithdrawals(-1));
        Check.refuses(Offices::closed, "fewestWithdrawals after the close", STATE, o -> o.fewestWithdrawals(0));
        Check.refuses(() -> Offices.withdrawn(blocked(), 0), "fewestWithdrawals of a withdrawn paper", STATE,
                o -> o.fewestWithdrawals(0));
    }

    private static Nominator signedTwice() {
        Nominator office = Offices.fourPapers();
        office.sign(0, 0);
        office.sign(1, 0);
        office.sign(1, 0);
        return office;
    }

    /** {2, 3} and {0, 4} are the smallest sets that help the paper 1, {0, 2, 3} and the like are larger. */
    private static void smallestSetOfSeveral() {
        Nominator office = new Nominator();
        office.addArea(2, 0);
        Offices.addVoters(office, 0, 4);
        for (int k = 0; k < 5; k++) {
            Offices.file(office, 0, Nominator.INDEPENDENT, "a");
        }
        office.sign(2, 0);
        office.sign(3, 1);
        office.sign(0, 2);
        office.sign(4, 3);
        office.sign(1, 0);
        office.sign(1, 1);
        office.sign(1, 2);
        office.sign(1, 3);
        Check.same("the lowest of the sets with two papers", office.fewestWithdrawals(1), 0b101);
        office.strike(2);
        Check.same("the lowest without the paper 0", office.fewestWithdrawals(1), 0b1100);
        office.strike(0);
        Check.same("the only set", office.fewestWithdrawals(1), 0b11000);
    }

    /** One high paper helps as much as two low ones, so the higher number is the smaller set. */
    private static void setsLeaveUselessPapersOut() {
        Nominator office = new Nominator();
        office.addArea(2, 0);
        Offices.addVoters(office, 0, 4);
        for (int k = 0; k < 12; k++) {
            Offices.file(office, 0, Nominator.INDEPENDENT, "a");
        }
        office.sign(0, 0);
        office.sign(1, 1);
        office.sign(11, 2);
        office.sign(11, 3);
        for (int k = 0; k < 4; k++) {
            office.sign(5, k);
        }
        Check.same("one high paper", office.fewestWithdrawals(5), 1 << 11);
        office.strike(2);
        Check.same("the two lowest", office.fewestWithdrawals(5), 0b11);
    }

    private static void allOtherPapers() {
        Nominator office = new Nominator();
        office.addArea(1, 0);
        office.addVoter(0);
        for (int k = 0; k < 12; k++) {
            Offices.file(office, 0, Nominator.INDEPENDENT, "a");
            office.sign(k, 0);
        }
        Check.same("eleven papers block the last one", office.fewestWithdrawals(11), (1 << 11) - 1);
        Check.same("no paper blocks the first one", office.fewestWithdrawals(0), 0);
        Check.same("the withdrawal of one is not enough", office.gain(11, 0), 0);
    }

    private static void signatures() {
        Check.asks(Offices::fourPapers, "no signatures", 0, o -> o.signatures());
        Check.asks(Offices::readyToClose, "five signatures", 5, o -> o.signatures());
        Check.asks(() -> Offices.withdrawn(Offices.readyToClose(), 0), "five signatures after a withdrawal", 5,
                o -> o.signatures());
    }
}
