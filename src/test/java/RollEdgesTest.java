import java.util.function.Supplier;

/** The edges of the roll: "Roll" among the terms, and the promises 6 to 12. Each test tells its sentence. */
public final class RollEdgesTest {
    private static final Class<IndexOutOfBoundsException> NOT_THERE = IndexOutOfBoundsException.class;
    private static final Class<IllegalArgumentException> RANGE = IllegalArgumentException.class;
    private static final Class<IllegalStateException> STATE = IllegalStateException.class;
    private static final Class<UnsupportedOperationException> SAME_AREA = UnsupportedOperationException.class;

    private RollEdgesTest() {
    }

    public static void main(String[] args) {
        areasAreNumberedFromZero();
        atMostFiveAreas();
        neededRange();
        depositRange();
        neededAndDepositAreKeptApart();
        votersAreNumberedFromZero();
        atMostFortyVoters();
        areaOfANewVoter();
        newVoterIsOnTheRoll();
        moveToTheSameArea();
        moveOfOneStruckOff();
        moveBetweenFirstAndLast();
        strikeOnce();
        restoreOnce();
        strikeAll();
        rollOnAnyDay();
        areaAndRollNow();
        Check.end();
    }

    private static Nominator areas(int count) {
        Nominator office = new Nominator();
        for (int k = 0; k < count; k++) {
            office.addArea(1, 0);
        }
        return office;
    }

    private static Nominator voters(int count) {
        Nominator office = areas(2);
        Offices.addVoters(office, 1, count);
        return office;
    }

    /** "At most 5 areas and 40 voters exist, each numbered from 0." */
    private static void areasAreNumberedFromZero() {
        for (int k = 0; k < 5; k++) {
            int number = k;
            Check.answers(() -> areas(number), "addArea with " + k + " areas", k, o -> o.addArea(1, 0));
            Check.refuses(() -> areas(number), "the area " + k + " before it is added", NOT_THERE,
                    o -> o.ballotSize(number));
            Check.asks(() -> areas(number + 1), "the area " + k, 0, o -> o.ballotSize(number));
        }
    }

    /** "IllegalStateException if there are 5 areas" */
    private static void atMostFiveAreas() {
        Check.answers(() -> areas(4), "the fifth area", 4, o -> o.addArea(10, 1000));
        Check.refuses(() -> areas(5), "a sixth area", STATE, o -> o.addArea(1, 0));
        Check.refuses(() -> areas(5), "another sixth area", STATE, o -> o.addArea(10, 1000));
        Check.refuses(Offices::full, "a sixth area with all there can be", STATE, o -> o.addArea(1, 0));
        Check.refuses(() -> areas(5), "the area 5", NOT_THERE, o -> o.addVoter(5));
        Check.answers(() -> areas(5), "a voter of the area 4", 0, o -> o.addVoter(4));
    }

    /** "needed: the number of signatures that a paper needs, 1 to 10" */
    private static void neededRange() {
        Check.refuses(Nominator::new, "needed 0", RANGE, o -> o.addArea(0, 5));
        Check.answers(Nominator::new, "needed 1", 0, o -> o.addArea(1, 5));
        Check.answers(Nominator::new, "needed 10", 0, o -> o.addArea(10, 5));
        Check.refuses(Nominator::new, "needed 11", RANGE, o -> o.addArea(11, 5));
        Check.refuses(Nominator::new, "needed -1", RANGE, o -> o.addArea(-1, 5));
        Check.refuses(Nominator::new, "largest needed", RANGE, o -> o.addArea(Integer.MAX_VALUE, 5));
        Check.refuses(Nominator::new, "least needed", RANGE, o -> o.addArea(Integer.MIN_VALUE, 5));
    }

    /** "deposit: the deposit that a paper needs, 0 to 1000" */
    private static void depositRange() {
        Check.refuses(Nominator::new, "deposit -1", RANGE, o -> o.addArea(5, -1));
        Check.answers(Nominator::new, "deposit 0", 0, o -> o.addArea(5, 0));
        Check.answers(Nominator::new, "deposit 1000", 0, o -> o.addArea(5, 1000));
        Check.refuses(Nominator::new, "deposit 1001", RANGE, o -> o.addArea(5, 1001));
        Check.refuses(Nominator::new, "largest deposit", RANGE, o -> o.addArea(5, Integer.MAX_VALUE));
        Check.refuses(Nominator::new, "least deposit", RANGE, o -> o.addArea(5, Integer.MIN_VALUE));
        Check.refuses(Nominator::new, "both out of range", RANGE, o -> o.addArea(0, 1001));
    }

    /** "An area has the number of signatures that a paper needs there, and the deposit that a paper needs there." */
    private static void neededAndDepositAreKeptApart() {
        Nominator office = new Nominator();
        office.addArea(1, 7);
        office.addArea(2, 3);
        Offices.addVoters(office, 0, 1);
        Offices.addVoters(office, 1, 2);
        Offices.file(office, 0, 0, "a");
        Offices.file(office, 1, 0, "b");
        office.sign(0, 0);
        office.sign(1, 1);
        office.pay(0, 6);
        office.pay(1, 3);
        Check.same("6 of 7", office.reason(0), Nominator.DEPOSIT_SHORT);
        Check.same("1 of 2", office.reason(1), Nominator.TOO_FEW_SIGNATURES);
        office.pay(0, 1);
        office.sign(1, 2);
        Check.same("7 of 7, 1 of 1", office.reason(0), Nominator.STANDS);
        Check.same("3 of 3, 2 of 2", office.reason(1), Nominator.STANDS);
    }

    /** "At most 5 areas and 40 voters exist, each numbered from 0." */
    private static void votersAreNumberedFromZero() {
        for (int k : new int[] {0, 1, 38, 39}) {
            Check.answers(() -> voters(k), "addVoter with " + k + " voters", k, o -> o.addVoter(0));
            Check.refuses(() -> voters(k), "the voter " + k + " before it is added", NOT_THERE, o -> o.areaOf(k));
            Check.asks(() -> voters(k + 1), "the voter " + k, 1, o -> o.areaOf(k));
        }
    }

    /** "IllegalStateException if there are 40 voters" */
    private static void atMostFortyVoters() {
        Check.answers(() -> voters(39), "the fortieth voter", 39, o -> o.addVoter(1));
        Check.refuses(() -> voters(40), "the voter 41", STATE, o -> o.addVoter(1));
        Check.refuses(() -> voters(40), "the voter 41 of another area", STATE, o -> o.addVoter(0));
        Check.refuses(() -> Offices.struckOff(voters(40), 3), "the voter 41 while one is struck off", STATE,
                o -> o.addVoter(0));
        Check.refuses(Offices::full, "the voter 41 with all there can be", STATE, o -> o.addVoter(4));
    }

    /** "area: the number of the area in which the voter is", "IndexOutOfBoundsException if there is no such area" */
    private static void areaOfANewVoter() {
        Check.refuses(Nominator::new, "a voter without areas", NOT_THERE, o -> o.addVoter(0));
        Check.refuses(() -> areas(1), "a voter of the area 1 of one", NOT_THERE, o -> o.addVoter(1));
        Check.refuses(() -> areas(1), "a voter of the area -1", NOT_THERE, o -> o.addVoter(-1));
        Check.answers(() -> areas(1), "a voter of the area 0", 0, o -> o.addVoter(0));
        Nominator office = areas(5);
        office.addVoter(4);
        office.addVoter(0);
        Check.same("area of the first voter", office.areaOf(0), 4);
        Check.same("area of the second voter", office.areaOf(1), 0);
    }

    /** "a new voter is on the roll" */
    private static void newVoterIsOnTheRoll() {
        Check.asks(() -> voters(1), "the first voter", true, o -> o.isOnRoll(0));
        Check.asks(() -> voters(40), "the last voter", true, o -> o.isOnRoll(39));
        Nominator office = Offices.struckOff(voters(1), 0);
        office.addVoter(1);
        Check.same("a new voter after one who is struck off", office.isOnRoll(1), true);
        Check.same("the one who is struck off", office.isOnRoll(0), false);
    }

    /** "UnsupportedOperationException if the voter is in this area" */
    private static void moveToTheSameArea() {
        Check.refuses(Offices::twoAreas, "move(0, 0)", SAME_AREA, o -> o.move(0, 0));
        Check.refuses(Offices::twoAreas, "move(5, 1)", SAME_AREA, o -> o.move(5, 1));
        Check.refuses(() -> Offices.struckOff(Offices.twoAreas(), 5), "move(5, 1) of one struck off", SAME_AREA,
                o -> o.move(5, 1));
        Nominator office = Offices.twoAreas();
        Check.same("away", office.move(5, 0), 1);
        Check.same("to the new area", Check.outcomeOf(() -> office.move(5, 0)), "UnsupportedOperationException");
        Check.same("and back", office.move(5, 1), 0);
    }

    /** "a voter who is struck off can move, too" */
    private static void moveOfOneStruckOff() {
        Nominator office = Offices.struckOff(Offices.twoAreas(), 0);
        Check.same("move of one struck off", office.move(0, 1), 0);
        Check.same("the new area", office.areaOf(0), 1);
        Check.same("still struck off", office.isOnRoll(0), false);
        Check.same("restored", office.restore(0), 6);
        Check.same("the area after that", office.areaOf(0), 1);
    }

    /** "IndexOutOfBoundsException if there is no such voter or no such area", on both sides. */
    private static void moveBetweenFirstAndLast() {
        Check.answers(Offices::full, "move(39, 0)", 4, o -> o.move(39, 0));
        Check.answers(Offices::full, "move(0, 4)", 0, o -> o.move(0, 4));
        Check.refuses(Offices::full, "move(40, 0)", NOT_THERE, o -> o.move(40, 0));
        Check.refuses(Offices::full, "move(-1, 0)", NOT_THERE, o -> o.move(-1, 0));
        Check.refuses(Offices::full, "move(0, 5)", NOT_THERE, o -> o.move(0, 5));
        Check.refuses(Offices::full, "move(0, -1)", NOT_THERE, o -> o.move(0, -1));
        Check.refuses(Nominator::new, "move(0, 0) in a new office", NOT_THERE, o -> o.move(0, 0));
        Check.refuses(() -> areas(2), "move without voters", NOT_THERE, o -> o.move(0, 1));
    }

    /** Of strike: "IllegalStateException if the voter is struck off" */
    private static void strikeOnce() {
        Check.answers(Offices::twoAreas, "strike of one of six", 5, o -> o.strike(2));
        Check.refuses(() -> Offices.struckOff(Offices.twoAreas(), 2), "strike twice", STATE, o -> o.strike(2));
        Nominator office = Offices.struckOff(Offices.twoAreas(), 2);
        office.restore(2);
        Check.same("strike after a restoration", office.strike(2), 5);
    }

    /** Of restore: "IllegalStateException if the voter is on the roll" */
    private static void restoreOnce() {
        Check.refuses(Offices::twoAreas, "restore of a new voter", STATE, o -> o.restore(2));
        Check.answers(() -> Offices.struckOff(Offices.twoAreas(), 2), "restore", 6, o -> o.restore(2));
        Nominator office = Offices.struckOff(Offices.twoAreas(), 2);
        office.restore(2);
        Check.same("restore twice", Check.outcomeOf(() -> office.restore(2)), "IllegalStateException");
        Check.refuses(() -> Offices.struckOff(Offices.twoAreas(), 2), "restore of another voter", STATE,
                o -> o.restore(3));
    }

    /** "Returns the number of voters on the roll after the call", from all to none and back. */
    private static void strikeAll() {
        Nominator office = voters(40);
        for (int k = 0; k < 40; k++) {
            Check.same("strike(" + k + ") of forty", office.strike(k), 39 - k);
        }
        for (int k = 0; k < 40; k++) {
            Check.same("restore(" + (39 - k) + ") of forty", office.restore(39 - k), k + 1);
        }
        Check.answers(() -> voters(1), "strike of the only voter", 0, o -> o.strike(0));
        Check.answers(() -> Offices.struckOff(voters(1), 0), "restore of the only voter", 1, o -> o.restore(0));
    }

    /** "Voters can move, be struck off and be restored on any day." */
    private static void rollOnAnyDay() {
        rollOn("day 0", Offices::readyToClose);
        rollOn("the closing day", Offices::closingDay);
        rollOn("the day after the close", Offices::closed);
        rollOn("the day after the changes", Offices::afterChanges);
        rollOn("the polling day", Offices::pollingDay);
        rollOn("the last day", Offices::lastDay);
    }

    private static void rollOn(String day, Supplier<Nominator> recipe) {
        Check.answers(recipe, "move on " + day, 0, o -> o.move(0, 1));
        Check.answers(recipe, "strike on " + day, 5, o -> o.strike(0));
        Check.answers(() -> Offices.struckOff(recipe.get(), 0), "restore on " + day, 6, o -> o.restore(0));
        Check.answers(recipe, "addArea on " + day, 2, o -> o.addArea(1, 0));
        Check.answers(recipe, "addVoter on " + day, 6, o -> o.addVoter(1));
    }

    /** "Returns the area in which a voter is now", "Returns whether a voter is on the roll now." */
    private static void areaAndRollNow() {
        Check.asks(Offices::full, "areaOf(0)", 0, o -> o.areaOf(0));
        Check.asks(Offices::full, "areaOf(39)", 4, o -> o.areaOf(39));
        Check.refuses(Offices::full, "areaOf(40)", NOT_THERE, o -> o.areaOf(40));
        Check.refuses(Offices::full, "areaOf(-1)", NOT_THERE, o -> o.areaOf(-1));
        Check.asks(() -> Offices.struckOff(Offices.full(), 39), "isOnRoll(39)", false, o -> o.isOnRoll(39));
        Check.asks(() -> Offices.struckOff(Offices.full(), 39), "isOnRoll(38)", true, o -> o.isOnRoll(38));
        Check.refuses(Offices::full, "isOnRoll(40)", NOT_THERE, o -> o.isOnRoll(40));
        Check.refuses(Offices::full, "isOnRoll(-1)", NOT_THERE, o -> o.isOnRoll(-1));
        Nominator office = Offices.closed();
        office.move(0, 1);
        office.strike(0);
        Check.same("areaOf after the close", office.areaOf(0), 1);
        Check.same("isOnRoll after the close", office.isOnRoll(0), false);
    }
}
