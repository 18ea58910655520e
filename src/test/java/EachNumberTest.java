/**
 * The same story with each number of an area, a paper, a voter and a signature: what a call answers is that of the
 * number it is asked for, whatever holds for the others.
 */
public final class EachNumberTest {
    private static final int AREAS = 5;
    private static final int VOTERS = 40;
    private static final int PAPERS = 12;
    private static final int SIGNATURES = 150;

    private final int area;
    private final int paper;
    private final int other;
    private final int voter;
    private final String name;

    private EachNumberTest(int area, int paper, int other, int voter) {
        this.area = area;
        this.paper = paper;
        this.other = other;
        this.voter = voter;
        name = "area " + area + ", papers " + paper + " and " + other + ", voter " + voter;
    }

    public static void main(String[] args) {
        for (int paper = 0; paper < PAPERS; paper++) {
            for (int other = 0; other < PAPERS; other++) {
                if (other != paper) {
                    EachNumberTest test = new EachNumberTest((paper + 2 * other) % AREAS, paper, other,
                            (5 * paper + 3 * other) % (VOTERS - 3));
                    test.untilTheClose();
                    test.untilTheCount();
                    test.deadAfterTheClose();
                    test.withdrawnAfterTheClose();
                    test.outvoted();
                    test.doubles();
                }
            }
        }
        eachVoter();
        eachSignature();
        namesFromTheLastToTheFirst();
        allThatIsPaid();
        manyBlockedSigners();
        Check.end();
    }

    private void same(String what, Object got, Object due) {
        Check.same(name + ": " + what, got, due);
    }

    /**
     * Twelve papers, of which two are in the area, where 2 signatures and 50 are needed; elsewhere 3 and 70 are. Three
     * voters are in the area.
     */
    private Nominator filed(int party, int otherParty) {
        Nominator office = new Nominator();
        for (int k = 0; k < AREAS; k++) {
            office.addArea(k == area ? 2 : 3, k == area ? 50 : 70);
        }
        for (int k = 0; k < VOTERS; k++) {
            office.addVoter(k >= voter && k < voter + 3 ? area : (area + 1) % AREAS);
        }
        for (int k = 0; k < PAPERS; k++) {
            int itsArea = k == paper || k == other ? area : (area + 1 + k % 4) % AREAS;
            int itsParty = k == paper ? party : k == other ? otherParty : 7;
            Offices.file(office, itsArea, itsParty, "n" + (char) ('a' + k));
        }
        return office;
    }

    /** The paper is acceptable; the other one was withdrawn. */
    private Nominator acceptable() {
        Nominator office = filed(4, Nominator.INDEPENDENT);
        office.withdraw(other);
        office.pay(paper, 50);
        office.sign(paper, voter);
        office.sign(paper, voter + 1);
        return office;
    }

    private void untilTheClose() {
        Nominator office = filed(4, Nominator.INDEPENDENT);
        same("reason at first", office.reason(paper), Nominator.DEPOSIT_SHORT);
        same("pay", office.pay(paper, 49), 49);
        same("reason, one too little", office.reason(paper), Nominator.DEPOSIT_SHORT);
        same("pay once more", office.pay(paper, 1), 50);
        same("paid for the other", office.paid(other), 0);
        same("reason, paid", office.reason(paper), Nominator.TOO_FEW_SIGNATURES);
        office.sign(other, voter);
        office.sign(paper, voter);
        office.sign(paper, voter + 1);
        same("the first signature", office.signatureResult(0), Nominator.COUNTS);
        same("the second signature", office.signatureResult(1), Nominator.SIGNED_EARLIER);
        same("counted", office.counted(paper), 1);
        same("counted of the other", office.counted(other), 1);
        same("paperOf", office.paperOf(voter), other);
        same("paperOf the next voter", office.paperOf(voter + 1), paper);
        same("wouldCount", office.wouldCount(paper, voter + 2), true);
        same("wouldCount of one who has signed", office.wouldCount(paper, voter + 1), false);
        same("wouldCount of one from elsewhere", office.wouldCount(paper, voter > 0 ? 0 : VOTERS - 1), false);
        same("gain", office.gain(paper, other), 1);
        same("gain the other way round", office.gain(other, paper), 0);
        same("fewestWithdrawals", office.fewestWithdrawals(paper), 1 << other);
        same("fewestWithdrawals of the other", Check.outcomeOf(() -> office.fewestWithdrawals(other)),
                "NoSuchElementException");
        strikeAndWithdraw(office);
        othersAreAsBefore(office);
    }

    private void strikeAndWithdraw(Nominator office) {
        same("strike", office.strike(voter + 1), VOTERS - 1);
        same("counted without a signer", office.counted(paper), 0);
        same("restore", office.restore(voter + 1), VOTERS);
        same("counted with the signer", office.counted(paper), 1);
        same("withdraw", office.withdraw(other), 1);
        same("counted after the withdrawal", office.counted(paper), 2);
        same("reason", office.reason(paper), Nominator.STANDS);
        same("reasonByReplay", office.reasonByReplay(paper), Nominator.STANDS);
        same("reasonByReplay of the other", office.reasonByReplay(other), Nominator.WITHDRAWN);
        same("ballotSize", office.ballotSize(area), 1);
        same("deposit", office.deposit(paper), Nominator.HELD);
        same("deposit of the other", office.deposit(other), Nominator.RETURNED);
        same("isReplaceable", office.isReplaceable(paper), true);
        same("isReplaceable, the other", office.isReplaceable(other), false);
    }

    private void othersAreAsBefore(Nominator office) {
        for (int k = 0; k < PAPERS; k++) {
            if (k != paper && k != other) {
                same("reason of " + k, office.reason(k), Nominator.DEPOSIT_SHORT);
                same("counted of " + k, office.counted(k), 0);
                same("paid for " + k, office.paid(k), 0);
                same("isReplaceable, " + k, office.isReplaceable(k), true);
                same("deposit of " + k, office.deposit(k), Nominator.HELD);
            }
        }
    }

    private void untilTheCount() {
        Nominator office = acceptable();
        same("die", office.die(paper), true);
        same("reason of the dead", office.reason(paper), Nominator.DEAD);
        same("ballotSize without the dead", office.ballotSize(area), 0);
        same("replace", Offices.replace(office, paper, "new"), 1);
        same("surname", Offices.nameOf(office, paper), "new ");
        same("surname of the other", Offices.nameOf(office, other), "n" + (char) ('a' + other) + "  ");
        office.pass(21);
        office.draw(7);
        same("reason after the close", office.reason(paper), Nominator.STANDS);
        same("deposit after the close", office.deposit(paper), Nominator.HELD);
        same("sumHeld after the close", office.sumHeld(), 50);
        same("ballot", office.ballot(area, 5, 0), paper);
        same("placeOnBallot", office.placeOnBallot(paper, 7), 0);
        same("withdraw of another one", Check.outcomeOf(() -> office.withdraw(other)), "IllegalStateException");
        office.pass(19);
        same("addVotes", office.addVotes(paper, 9), 9);
        same("votes", office.votes(paper), 9);
        same("votes of the other", office.votes(other), 0);
        same("share", office.share(paper), 1.0);
        same("finish", office.finish(area), 0);
        same("winner", office.winner(area), paper);
        same("deposit at the end", office.deposit(paper), Nominator.RETURNED);
        same("deposit of the other at the end", office.deposit(other), Nominator.RETURNED);
        same("reasonByReplay at the end", office.reasonByReplay(paper), Nominator.STANDS);
    }

    private void deadAfterTheClose() {
        Nominator office = Offices.closed(acceptable());
        same("die after the close", office.die(paper), true);
        office.pass(4);
        same("deposit of the dead", office.deposit(paper), Nominator.HELD);
        same("isReplaceable, the dead", office.isReplaceable(paper), true);
        office.pass(1);
        same("deposit of the dead, later", office.deposit(paper), Nominator.RETURNED);
        same("isReplaceable, the dead, later", office.isReplaceable(paper), false);
        same("reason of the dead, later", office.reason(paper), Nominator.DEAD);
    }

    private void withdrawnAfterTheClose() {
        Nominator office = Offices.closed(acceptable());
        same("withdraw after the close", office.withdraw(paper), 0);
        same("deposit, withdrawn late", office.deposit(paper), Nominator.LOST);
        same("sumLost, withdrawn late", office.sumLost(), 50);
        same("lostShare, withdrawn late", office.lostShare(), 1f);
        same("counted, withdrawn late", office.counted(paper), 2);
        same("reason, withdrawn late", office.reason(paper), Nominator.WITHDRAWN);
        same("deposit of the other, withdrawn early", office.deposit(other), Nominator.RETURNED);
    }

    /** Both papers stand, one with 2 signatures from this area, the other with 2 of voters who move to it. */
    private Nominator both(int party, int otherParty) {
        Nominator office = filed(party, otherParty);
        office.pay(paper, 50);
        office.pay(other, 51);
        office.sign(paper, voter);
        office.sign(paper, voter + 1);
        office.sign(other, voter + 2);
        int mover = (voter + 7) % VOTERS;
        office.move(mover, area);
        office.sign(other, mover);
        return office;
    }

    private void outvoted() {
        Nominator office = Offices.pollingDay(both(4, 5));
        office.addVotes(paper, 100);
        office.addVotes(other, 5);
        same("share of the other", office.share(other), 5.0 / 105.0);
        same("finish, one is outvoted", office.finish(area), 1);
        same("deposit of the other, outvoted", office.deposit(other), Nominator.LOST);
        same("deposit of the winner", office.deposit(paper), Nominator.RETURNED);
        same("winner of two", office.winner(area), paper);
        same("sumLost, outvoted", office.sumLost(), 51);
        same("lostShare, outvoted", office.lostShare(), 51f / 101f);
    }

    private void doubles() {
        int low = Math.min(paper, other);
        int high = Math.max(paper, other);
        Nominator office = both(4, 4);
        same("reason of the lower one", office.reason(low), Nominator.STANDS);
        same("reason of the higher one", office.reason(high), Nominator.DOUBLE);
        same("reasonByReplay of the higher one", office.reasonByReplay(high), Nominator.DOUBLE);
        office.withdraw(low);
        same("reason of the higher one alone", office.reason(high), Nominator.STANDS);
    }

    /** Each voter signs for one of two papers, and some are struck off or move away. */
    private static void eachVoter() {
        for (int voter = 0; voter < VOTERS; voter++) {
            Nominator office = new Nominator();
            office.addArea(1, 0);
            office.addArea(1, 0);
            Offices.addVoters(office, 0, VOTERS);
            Offices.file(office, 0, 1, "a");
            Offices.file(office, 0, 2, "b");
            for (int k = 0; k < VOTERS; k++) {
                office.sign(k % 2, k);
            }
            String name = "voter " + voter + ": ";
            Check.same(name + "move", office.move(voter, 1), 0);
            Check.same(name + "counted after the move", office.counted(voter % 2), VOTERS / 2);
            Check.same(name + "strike", office.strike(voter), VOTERS - 1);
            Check.same(name + "counted after the strike", office.counted(voter % 2), VOTERS / 2 - 1);
            Check.same(name + "counted of the other paper", office.counted(1 - voter % 2), VOTERS / 2);
            for (int k = 0; k < VOTERS; k++) {
                Check.same(name + "isOnRoll(" + k + ")", office.isOnRoll(k), k != voter);
                Check.same(name + "areaOf(" + k + ")", office.areaOf(k), k == voter ? 1 : 0);
                int result = k == voter ? Nominator.STRUCK_OFF : Nominator.COUNTS;
                Check.same(name + "signatureResult(" + k + ")", office.signatureResult(k), result);
            }
        }
    }

    /** Signatures that are not local, and between them, with each number, two of one voter for two papers. */
    private static void eachSignature() {
        for (int number = 0; number < SIGNATURES - 1; number++) {
            Nominator office = Offices.fourPapers();
            for (int k = 0; k < number; k++) {
                office.sign(0, 4);
            }
            String name = "signature " + number;
            Check.same(name, office.sign(2, 3), number);
            Check.same(name + " and the next", office.sign(0, 3), number + 1);
            for (int k = number + 2; k < SIGNATURES; k++) {
                office.sign(0, 5);
            }
            Check.same(name + " counts", office.signatureResult(number), Nominator.COUNTS);
            Check.same(name + ": the next does not", office.signatureResult(number + 1), Nominator.SIGNED_EARLIER);
            Check.same(name + ": paperOf", office.paperOf(3), 2);
            Check.same(name + ": gain", office.gain(0, 2), 1);
            Check.same(name + ": withdraw", office.withdraw(2), 1);
            Check.same(name + ": the next one counts now", office.signatureResult(number + 1), Nominator.COUNTS);
            Check.same(name + ": counted", office.counted(0), 1);
            Check.same(name + ": signatures", office.signatures(), SIGNATURES);
        }
    }

    /** With the seed 7 the letter r is in the place 0: more of it means a later place. */
    private static void namesFromTheLastToTheFirst() {
        Nominator office = new Nominator();
        office.addArea(1, 0);
        String[] names = {"r", "rr", "rrr", "rrrr"};
        for (int k = 0; k < PAPERS; k++) {
            office.addVoter(0);
            Offices.file(office, 0, Nominator.INDEPENDENT, names[3 - k / 3]);
            office.sign(k, k);
        }
        office.pass(21);
        Check.same("the letter in the place 0", office.draw(7), 'r');
        int[] list = {9, 10, 11, 6, 7, 8, 3, 4, 5, 0, 1, 2};
        for (int precinct : new int[] {0, 1, 11, 12, 13, 999}) {
            for (int k = 0; k < PAPERS; k++) {
                int paper = list[(precinct + k) % PAPERS];
                Check.same("ballot of " + precinct + ", place " + k, office.ballot(0, precinct, k), paper);
                Check.same("placeOnBallot(" + paper + ", " + precinct + ")", office.placeOnBallot(paper, precinct), k);
            }
        }
    }

    /** "the sum of all deposits", of the first paper and of the last one, too. */
    private static void allThatIsPaid() {
        for (int lost = 0; lost < PAPERS; lost++) {
            Nominator office = new Nominator();
            office.addArea(1, 0);
            for (int k = 0; k < PAPERS; k++) {
                office.addVoter(0);
                Offices.file(office, 0, Nominator.INDEPENDENT, "a");
                office.sign(k, k);
                office.pay(k, 3 * k + 1);
            }
            Check.same("sumHeld of twelve", office.sumHeld(), 210);
            office.pass(21);
            office.withdraw(lost);
            Check.same("sumHeld without " + lost, office.sumHeld(), 209 - 3 * lost);
            Check.same("sumLost with " + lost, office.sumLost(), 3 * lost + 1);
            Check.same("lostShare with " + lost, office.lostShare(), (float) (3 * lost + 1) / 210f);
        }
    }

    /** "the smallest set": the last of many signers alone is blocked by one paper, the others by two. */
    private static void manyBlockedSigners() {
        for (int signers : new int[] {1, 3, 4, 10, 11, 12, 39}) {
            Nominator office = new Nominator();
            office.addArea(1, 0);
            Offices.addVoters(office, 0, signers + 1);
            for (int k = 0; k < 4; k++) {
                Offices.file(office, 0, Nominator.INDEPENDENT, "a");
            }
            for (int k = 0; k < signers; k++) {
                office.sign(0, k);
                office.sign(1, k);
                office.sign(3, k);
            }
            office.sign(2, signers);
            office.sign(3, signers);
            Check.same("one paper against two, signers " + signers, office.fewestWithdrawals(3), 0b100);
            office.strike(signers);
            Check.same("two papers, signers " + signers, office.fewestWithdrawals(3), 0b11);
        }
    }
}
