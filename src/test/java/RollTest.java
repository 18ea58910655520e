/** Promises 6 to 12. */
public final class RollTest {
    private static final Class<IndexOutOfBoundsException> NOT_THERE = IndexOutOfBoundsException.class;

    private RollTest() {
    }

    public static void main(String[] args) {
        addArea();
        addVoter();
        move();
        strikeAndRestore();
        questions();
        rollAfterTheClose();
        Check.end();
    }

    private static Nominator fiveAreas() {
        Nominator office = new Nominator();
        for (int k = 0; k < 5; k++) {
            office.addArea(1, 0);
        }
        return office;
    }

    private static Nominator fortyVoters() {
        Nominator office = new Nominator();
        office.addArea(1, 0);
        Offices.addVoters(office, 0, 40);
        return office;
    }

    private static void addArea() {
        Nominator office = new Nominator();
        Check.same("lowest area", office.addArea(1, 0), 0);
        Check.same("highest area", office.addArea(10, 1000), 1);
        Check.same("third area", office.addArea(3, 7), 2);
        Check.same("fourth area", office.addArea(3, 7), 3);
        Check.same("fifth area", office.addArea(3, 7), 4);
        Class<IllegalArgumentException> range = IllegalArgumentException.class;
        Check.refuses(Nominator::new, "addArea(0, 0)", range, o -> o.addArea(0, 0));
        Check.refuses(Nominator::new, "addArea(11, 0)", range, o -> o.addArea(11, 0));
        Check.refuses(Nominator::new, "addArea(1, -1)", range, o -> o.addArea(1, -1));
        Check.refuses(Nominator::new, "addArea(1, 1001)", range, o -> o.addArea(1, 1001));
        Check.refuses(RollTest::fiveAreas, "a sixth area", IllegalStateException.class, o -> o.addArea(1, 0));
        Check.refuses(RollTest::fiveAreas, "a sixth area out of range", range, o -> o.addArea(0, 0));
    }

    private static void addVoter() {
        Nominator office = Offices.twoAreas();
        Check.same("addVoter(1)", office.addVoter(1), 6);
        Check.same("addVoter(0)", office.addVoter(0), 7);
        Check.same("area of the voter 6", office.areaOf(6), 1);
        Check.same("area of the voter 7", office.areaOf(7), 0);
        Check.same("a new voter on the roll", office.isOnRoll(7), true);
        Check.same("the last voter", fortyVoters().areaOf(39), 0);
        Check.refuses(Offices::twoAreas, "addVoter(2)", NOT_THERE, o -> o.addVoter(2));
        Check.refuses(Offices::twoAreas, "addVoter(-1)", NOT_THERE, o -> o.addVoter(-1));
        Check.refuses(RollTest::fortyVoters, "voter 41", IllegalStateException.class, o -> o.addVoter(0));
        Check.refuses(RollTest::fortyVoters, "voter 41 without an area", NOT_THERE, o -> o.addVoter(1));
    }

    private static void move() {
        Nominator office = Offices.twoAreas();
        Check.same("move(0, 1)", office.move(0, 1), 0);
        Check.same("area after the move", office.areaOf(0), 1);
        Check.same("move(0, 0)", office.move(0, 0), 1);
        office.strike(0);
        Check.same("move of a voter who is struck off", office.move(0, 1), 0);
        Check.same("still struck off after the move", office.isOnRoll(0), false);
        Check.refuses(Offices::twoAreas, "move(6, 0)", NOT_THERE, o -> o.move(6, 0));
        Check.refuses(Offices::twoAreas, "move(-1, 0)", NOT_THERE, o -> o.move(-1, 0));
        Check.refuses(Offices::twoAreas, "move(0, 2)", NOT_THERE, o -> o.move(0, 2));
        Check.refuses(Offices::twoAreas, "move(0, -1)", NOT_THERE, o -> o.move(0, -1));
        Check.refuses(Offices::twoAreas, "move to the same area", UnsupportedOperationException.class,
                o -> o.move(4, 1));
    }

    private static void strikeAndRestore() {
        Nominator office = Offices.twoAreas();
        Check.same("strike(5)", office.strike(5), 5);
        Check.same("strike(0)", office.strike(0), 4);
        Check.same("isOnRoll after strike", office.isOnRoll(0), false);
        Check.same("isOnRoll of another voter", office.isOnRoll(1), true);
        Check.same("restore(5)", office.restore(5), 5);
        Check.same("isOnRoll after restore", office.isOnRoll(5), true);
        Check.same("restore(0)", office.restore(0), 6);
        Check.same("strike of one of forty", fortyVoters().strike(39), 39);
        Check.refuses(Offices::twoAreas, "strike(6)", NOT_THERE, o -> o.strike(6));
        Check.refuses(Offices::twoAreas, "strike(-1)", NOT_THERE, o -> o.strike(-1));
        Check.refuses(RollTest::oneStruckOff, "strike twice", IllegalStateException.class, o -> o.strike(2));
        Check.refuses(Offices::twoAreas, "restore(6)", NOT_THERE, o -> o.restore(6));
        Check.refuses(Offices::twoAreas, "restore(-1)", NOT_THERE, o -> o.restore(-1));
        Check.refuses(Offices::twoAreas, "restore of a voter on the roll", IllegalStateException.class,
                o -> o.restore(2));
    }

    private static Nominator oneStruckOff() {
        Nominator office = Offices.twoAreas();
        office.strike(2);
        return office;
    }

    private static void questions() {
        Check.asks(Offices::twoAreas, "areaOf(3)", 0, o -> o.areaOf(3));
        Check.asks(Offices::twoAreas, "areaOf(4)", 1, o -> o.areaOf(4));
        Check.refuses(Offices::twoAreas, "areaOf(6)", NOT_THERE, o -> o.areaOf(6));
        Check.refuses(Offices::twoAreas, "areaOf(-1)", NOT_THERE, o -> o.areaOf(-1));
        Check.asks(RollTest::oneStruckOff, "isOnRoll(2)", false, o -> o.isOnRoll(2));
        Check.asks(RollTest::oneStruckOff, "isOnRoll(3)", true, o -> o.isOnRoll(3));
        Check.refuses(Offices::twoAreas, "isOnRoll(6)", NOT_THERE, o -> o.isOnRoll(6));
        Check.refuses(Offices::twoAreas, "isOnRoll(-1)", NOT_THERE, o -> o.isOnRoll(-1));
    }

    private static void rollAfterTheClose() {
        Nominator office = Offices.pollingDay();
        Check.same("addArea on the polling day", office.addArea(1, 0), 2);
        Check.same("addVoter on the polling day", office.addVoter(2), 6);
        Check.same("move on the polling day", office.move(6, 0), 2);
        Check.same("strike on the polling day", office.strike(6), 6);
        Check.same("restore on the polling day", office.restore(6), 7);
    }
}
