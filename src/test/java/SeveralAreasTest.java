import java.util.NoSuchElementException;

/**
 * What areas do not share (ballots, votes, the end of the count, what they need, doubles), and what goes across them
 * (signatures of voters who move, withdrawals, sums). Each test tells its sentence.
 */
public final class SeveralAreasTest {
    // The areas of the papers 0 to 11: two in the area 0, four in the area 1, one in 2, five in 3, none in 4.
    private static final int[] AREAS = {3, 1, 0, 3, 1, 2, 3, 0, 1, 3, 1, 3};
    private static final int[][] OF_AREA = {{2, 7}, {1, 4, 8, 10}, {5}, {0, 3, 6, 9, 11}, {}};

    private SeveralAreasTest() {
    }

    public static void main(String[] args) {
        ballotOfEachArea();
        placeOnTheBallotOfItsArea();
        ballotSizeOfEachArea();
        votesOfEachArea();
        winnerOfEachArea();
        finishCountsItsAreaAlone();
        finishCountsWithoutMoney();
        needsOfEachArea();
        doublesOfEachArea();
        sumsOfAllAreas();
        signersWhoMove();
        gainFromSignersWhoMoved();
        withdrawalsFreeInOtherAreas();
        laterAreas();
        Check.end();
    }

    /** Five areas, in which one signature and no money is needed; all papers stand, and all names are the same. */
    private static Nominator standing() {
        Nominator office = new Nominator();
        for (int k = 0; k < 5; k++) {
            office.addArea(1, 0);
        }
        for (int k = 0; k < AREAS.length; k++) {
            office.addVoter(AREAS[k]);
            Offices.file(office, AREAS[k], Nominator.INDEPENDENT, "m");
            office.sign(k, k);
            office.pay(k, 1 << k % 9);
        }
        return office;
    }

    private static Nominator polling() {
        return Offices.drawn(Offices.pollingDay(standing()), 7);
    }

    /** The paper k gets k * k + 1 votes. */
    private static Nominator voted() {
        Nominator office = polling();
        for (int k = 0; k < AREAS.length; k++) {
            office.addVotes(k, k * k + 1);
        }
        return office;
    }

    /** "The ballot list of an area consists of the papers of the area", "begins with the paper at the place r % n" */
    private static void ballotOfEachArea() {
        Nominator office = polling();
        for (int area = 0; area < OF_AREA.length; area++) {
            int[] list = OF_AREA[area];
            for (int precinct : new int[] {0, 1, 2, 3, 4, 5, 999}) {
                int number = area;
                for (int place = 0; place < list.length; place++) {
                    Check.same("ballot(" + area + ", " + precinct + ", " + place + ")",
                            office.ballot(area, precinct, place), list[(precinct + place) % list.length]);
                }
                Check.same("ballot(" + area + ", " + precinct + ", after the last)",
                        Check.outcomeOf(() -> office.ballot(number, precinct, list.length)), "NoSuchElementException");
            }
        }
    }

    /** "Returns the place of a paper on the ballot of a precinct of its area." */
    private static void placeOnTheBallotOfItsArea() {
        Nominator office = polling();
        for (int[] list : OF_AREA) {
            for (int precinct : new int[] {0, 1, 2, 3, 4, 5, 999}) {
                for (int place = 0; place < list.length; place++) {
                    int paper = list[(precinct + place) % list.length];
                    Check.same("placeOnBallot(" + paper + ", " + precinct + ")", office.placeOnBallot(paper, precinct),
                            place);
                }
            }
        }
    }

    /** "Returns the number of papers that stand in an area." */
    private static void ballotSizeOfEachArea() {
        Nominator office = standing();
        for (int area = 0; area < OF_AREA.length; area++) {
            Check.same("ballotSize(" + area + ")", office.ballotSize(area), OF_AREA[area].length);
        }
        office.withdraw(4);
        office.die(11);
        int[] due = {2, 3, 1, 4, 0};
        for (int area = 0; area < due.length; area++) {
            Check.same("ballotSize(" + area + ") without two", office.ballotSize(area), due[area]);
        }
    }

    private static int votesIn(int area) {
        int all = 0;
        for (int paper : OF_AREA[area]) {
            all += paper * paper + 1;
        }
        return all;
    }

    /** "the votes of the paper divided by those of all papers of the area" */
    private static void votesOfEachArea() {
        Nominator office = voted();
        for (int k = 0; k < AREAS.length; k++) {
            Check.same("votes(" + k + ")", office.votes(k), k * k + 1);
            Check.same("share(" + k + ")", office.share(k), (double) (k * k + 1) / (double) votesIn(AREAS[k]));
        }
    }

    /** "the paper with the most votes of those that stand in an area", "if the counting in the area is not finished" */
    private static void winnerOfEachArea() {
        Nominator office = voted();
        for (int area = 4; area >= 0; area--) {
            int number = area;
            Check.same("winner(" + area + ") before the end", Check.outcomeOf(() -> office.winner(number)),
                    "IllegalStateException");
            office.finish(area);
            int[] list = OF_AREA[area];
            Check.same("winner(" + area + ")", Check.outcomeOf(() -> office.winner(number)),
                    list.length == 0 ? "NoSuchElementException" : list[list.length - 1]);
        }
        Check.refuses(() -> Offices.finished(voted(), 4), "winner of the area without papers",
                NoSuchElementException.class, o -> o.winner(4));
    }

    /** "the number of papers that stand in the area and whose deposits are lost after the call" */
    private static void finishCountsItsAreaAlone() {
        Nominator office = voted();
        int[] due = {0, 1, 0, 2, 0};
        int[] lost = {0, 0, 0, 0, 0, 0, 0, 0, 0, 0, 0, 0};
        for (int area : new int[] {3, 1, 0, 4, 2}) {
            Check.same("finish(" + area + ")", office.finish(area), due[area]);
            for (int paper : OF_AREA[area]) {
                lost[paper] = 20 * (paper * paper + 1) < votesIn(area) ? Nominator.LOST : Nominator.RETURNED;
            }
            for (int k = 0; k < AREAS.length; k++) {
                Check.same("deposit(" + k + ") after finish(" + area + ")", office.deposit(k), lost[k]);
            }
        }
    }

    /** The same, where nothing is paid: a deposit is "what has been paid", also if that is 0, and "is lost". */
    private static void finishCountsWithoutMoney() {
        Nominator office = Offices.pollingDay(Offices.standing(0, 1, 2));
        office.addVotes(1, 100);
        Check.same("finish, nothing paid", office.finish(0), 2);
        Check.same("deposit of the first", office.deposit(0), Nominator.LOST);
        Check.same("deposit of the winner", office.deposit(1), Nominator.RETURNED);
        Check.same("sumLost", office.sumLost(), 0);
        Check.same("lostShare", Check.outcomeOf(() -> office.lostShare()), "ArithmeticException");
    }

    /** "at least the deposit of its area", "at least as many of its signatures count as its area needs" */
    private static void needsOfEachArea() {
        Nominator office = new Nominator();
        for (int k = 0; k < 5; k++) {
            office.addArea(5 - k, 200 * k + 100);
            Offices.addVoters(office, k, 5);
            Offices.file(office, k, k, "a");
        }
        for (int area = 0; area < 5; area++) {
            for (int k = 0; k < 5 - area; k++) {
                Check.same("reason before, area " + area, office.reason(area), Nominator.DEPOSIT_SHORT);
                office.sign(area, 5 * area + k);
            }
            office.pay(area, 200 * area + 99);
            Check.same("one too little, area " + area, office.reason(area), Nominator.DEPOSIT_SHORT);
            office.pay(area, 1);
            Check.same("reason after, area " + area, office.reason(area), Nominator.STANDS);
            office.strike(5 * area);
            Check.same("reason without one, area " + area, office.reason(area), Nominator.TOO_FEW_SIGNATURES);
            Check.same("the same by replay, area " + area, office.reasonByReplay(area), Nominator.TOO_FEW_SIGNATURES);
        }
    }

    /** "a double if a paper of the same party in the same area that has a lower number is acceptable" */
    private static void doublesOfEachArea() {
        Nominator office = new Nominator();
        for (int k = 0; k < 3; k++) {
            office.addArea(1, 0);
        }
        for (int k = 0; k < 9; k++) {
            office.addVoter(k % 3);
            Offices.file(office, k % 3, 6, "a");
            office.sign(k, k);
        }
        office.strike(1);
        int[] due = {Nominator.STANDS, Nominator.TOO_FEW_SIGNATURES, Nominator.STANDS, Nominator.DOUBLE,
            Nominator.STANDS, Nominator.DOUBLE, Nominator.DOUBLE, Nominator.DOUBLE, Nominator.DOUBLE};
        for (int k = 0; k < due.length; k++) {
            Check.same("reason(" + k + ")", office.reason(k), due[k]);
        }
        office.withdraw(2);
        Check.same("the next one in the area 2", office.reason(5), Nominator.STANDS);
        Check.same("the last one in the area 2", office.reason(8), Nominator.DOUBLE);
        Check.same("the next one in the area 0", office.reason(3), Nominator.DOUBLE);
    }

    /** "the sum of the deposits that are held", "that are lost", "what has been paid for all papers": of all areas. */
    private static void sumsOfAllAreas() {
        Nominator office = voted();
        int all = 511 + 7;
        Check.same("sumHeld before the end", office.sumHeld(), all);
        Check.same("sumLost before the end", office.sumLost(), 0);
        office.finish(3);
        Check.same("sumHeld after finish(3)", office.sumHeld(), all - 1 - 8 - 64 - 1 - 4);
        Check.same("sumLost after finish(3)", office.sumLost(), 1 + 8);
        Check.same("lostShare after finish(3)", office.lostShare(), 9f / 518f);
        office.finish(1);
        Check.same("sumLost after finish(1)", office.sumLost(), 1 + 8 + 2);
        Check.same("lostShare after finish(1)", office.lostShare(), 11f / 518f);
        Nominator late = Offices.withdrawn(Offices.closed(standing()), 10);
        Check.same("sumLost, one withdrawn late", late.sumLost(), 2);
        late.pass(19);
        late.addVotes(0, 100);
        late.finish(3);
        Check.same("sumLost, one withdrawn late, others outvoted", late.sumLost(), 2 + 8 + 64 + 1 + 4);
        Check.same("sumHeld, one withdrawn late, others outvoted", late.sumHeld(), all - 2 - 1 - 8 - 64 - 1 - 4);
    }

    /** Two areas that need one signature, the papers 0 and 1 in the area 0, 2 and 3 in the area 1, a voter in each. */
    private static Nominator twoByTwo() {
        Nominator office = new Nominator();
        office.addArea(1, 0);
        office.addArea(1, 0);
        for (int k = 0; k < 4; k++) {
            Offices.file(office, k / 2, Nominator.INDEPENDENT, "a");
        }
        office.addVoter(0);
        office.addVoter(1);
        return office;
    }

    /** "in the area of the paper when it was handed in", and where the voter is afterwards does not matter. */
    private static void signersWhoMove() {
        Nominator office = twoByTwo();
        office.sign(0, 0);
        office.move(0, 1);
        Check.same("the one from before the move", office.signatureResult(0), Nominator.COUNTS);
        Check.same("wouldCount in the old area", office.wouldCount(1, 0), false);
        Check.same("wouldCount in the new area", office.wouldCount(2, 0), false);
        office.sign(2, 0);
        office.sign(1, 0);
        Check.same("the one after the move", office.signatureResult(1), Nominator.SIGNED_EARLIER);
        Check.same("the one in the old area", office.signatureResult(2), Nominator.NOT_LOCAL);
        office.withdraw(0);
        Check.same("wouldCount in the new area, as one counts there", office.wouldCount(3, 0), false);
        Check.same("the one after the move, the first paper is withdrawn", office.signatureResult(1),
                Nominator.COUNTS);
        office.withdraw(2);
        Check.same("wouldCount in the new area, both withdrawn", office.wouldCount(3, 0), true);
        Check.same("wouldCount in the old area, both withdrawn", office.wouldCount(1, 0), false);
    }

    /** "how many more signatures of a paper would count", "the smallest set": also of signers who are elsewhere now. */
    private static void gainFromSignersWhoMoved() {
        Nominator office = twoByTwo();
        office.sign(0, 0);
        office.sign(1, 0);
        office.move(0, 1);
        Check.same("gain(1, 0), the signer has moved", office.gain(1, 0), 1);
        Check.same("fewestWithdrawals(1), the signer has moved", office.fewestWithdrawals(1), 1);
        office.sign(3, 0);
        Check.same("gain(3, 0), blocked twice", office.gain(3, 0), 0);
        Check.same("gain(3, 1), blocked twice", office.gain(3, 1), 0);
        Check.same("fewestWithdrawals(3), of another area", office.fewestWithdrawals(3), 0b11);
        office.strike(0);
        Check.same("gain(1, 0), the signer is struck off", office.gain(1, 0), 0);
        Check.same("fewestWithdrawals(1), the signer is struck off",
                Check.outcomeOf(() -> office.fewestWithdrawals(1)), "NoSuchElementException");
    }

    /** "the number of signatures of other papers that count after the call and did not count before it" */
    private static void withdrawalsFreeInOtherAreas() {
        Nominator office = twoByTwo();
        office.sign(0, 0);
        office.move(0, 1);
        office.sign(2, 0);
        office.sign(0, 0);
        office.move(1, 0);
        office.sign(0, 1);
        office.sign(1, 1);
        office.move(1, 1);
        office.sign(3, 1);
        Check.same("one of the area 0 and one of the area 1", office.withdraw(0), 2);
        Check.same("counted(1)", office.counted(1), 1);
        Check.same("counted(2)", office.counted(2), 1);
        Check.same("counted(3)", office.counted(3), 0);
        Check.same("one of the area 1", office.withdraw(1), 1);
        Check.same("counted(3) after that", office.counted(3), 1);
    }

    /** "Adds an area", also one that is added when papers are there, or when others are finished. */
    private static void laterAreas() {
        Nominator office = Offices.readyToClose();
        Check.same("a third area", office.addArea(1, 5), 2);
        office.move(5, 2);
        Check.same("a paper there", Offices.file(office, 2, 1, "z"), 4);
        office.sign(4, 5);
        office.pay(4, 5);
        Check.same("it stands", office.reason(4), Nominator.STANDS);
        Check.same("and so does the paper 0", office.reason(0), Nominator.STANDS);
        Offices.later(office, 40);
        office.finish(0);
        Check.same("an area after the end of another", office.addArea(1, 0), 3);
        Check.same("its winner", Check.outcomeOf(() -> office.winner(3)), "IllegalStateException");
        Check.same("its end", office.finish(3), 0);
        office.addVotes(4, 3);
        Check.same("the end of the third", office.finish(2), 0);
        Check.same("the winner of the third", office.winner(2), 4);
    }
}
