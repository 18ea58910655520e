/** Promises 32 to 35. */
public final class BallotsTest {
    private static final Class<IndexOutOfBoundsException> NOT_THERE = IndexOutOfBoundsException.class;
    private static final Class<IllegalArgumentException> RANGE = IllegalArgumentException.class;
    private static final Class<IllegalStateException> STATE = IllegalStateException.class;
    private static final int[] SEEDS = {0, 1, 7, -1, 12345, Integer.MAX_VALUE, Integer.MIN_VALUE};

    private BallotsTest() {
    }

    public static void main(String[] args) {
        draw();
        letter();
        orderOfNames();
        orderOfLastLetters();
        orderWithEverySeed();
        ballot();
        ballotFollowsWhoStands();
        placeOnBallot();
        Check.end();
    }

    /** Six papers that stand in area 0 after the close, some with the same name or the same beginning. */
    static Nominator sixNames() {
        return standing("bob", "abc", "ab", "bob", "abcd", "z");
    }

    private static Nominator standing(String... names) {
        Nominator office = new Nominator();
        office.addArea(1, 0);
        for (int k = 0; k < names.length; k++) {
            office.addVoter(0);
            Offices.file(office, 0, k, names[k]);
            office.sign(k, k);
        }
        office.pass(21);
        return office;
    }

    /** The order of the letters, drawn in long arithmetic as the document tells it. */
    private static String orderOf(int seed) {
        StringBuilder order = new StringBuilder("abcdefghijklmnopqrstuvwxyz");
        long state = seed & 0xffffffffL;
        for (int k = 25; k >= 1; k--) {
            state = state * 1103515245L + 12345L & 0xffffffffL;
            int j = (int) (state / 256 % (k + 1));
            char kept = order.charAt(j);
            order.setCharAt(j, order.charAt(k));
            order.setCharAt(k, kept);
        }
        return order.toString();
    }

    private static void draw() {
        for (int seed : SEEDS) {
            Nominator office = sixNames();
            Check.same("draw(" + seed + ")", office.draw(seed), orderOf(seed).charAt(0));
        }
        Check.same("draw(7)", Offices.closed().draw(7), 'r');
        Check.refuses(Offices::readyToClose, "draw while open", STATE, o -> o.draw(1));
        Check.refuses(() -> Offices.later(Offices.readyToClose(), 20), "draw on the closing day", STATE,
                o -> o.draw(1));
        Check.refuses(() -> Offices.drawn(Offices.closed(), 1), "draw twice", STATE, o -> o.draw(1));
    }

    private static void letter() {
        for (int seed : SEEDS) {
            Nominator office = Offices.drawn(sixNames(), seed);
            StringBuilder order = new StringBuilder();
            for (int k = 0; k < 26; k++) {
                order.append(office.letter(k));
            }
            Check.same("letters of " + seed, order.toString(), orderOf(seed));
        }
        Check.asks(() -> Offices.drawn(Offices.closed(), 7), "letter(25)", orderOf(7).charAt(25), o -> o.letter(25));
        Check.refuses(() -> Offices.drawn(Offices.closed(), 7), "letter(26)", NOT_THERE, o -> o.letter(26));
        Check.refuses(() -> Offices.drawn(Offices.closed(), 7), "letter(-1)", NOT_THERE, o -> o.letter(-1));
        Check.refuses(Offices::closed, "letter(26) before the draw", NOT_THERE, o -> o.letter(26));
        Check.refuses(Offices::closed, "letter(0) before the draw", STATE, o -> o.letter(0));
    }

    private static String listOf(Nominator office, int precinct) {
        StringBuilder list = new StringBuilder();
        for (int k = 0; k < office.ballotSize(0); k++) {
            list.append(office.ballot(0, precinct, k));
        }
        return list.toString();
    }

    /** With the seed 7 the place of a is lower than that of z, and that of z lower than that of b. */
    private static void orderOfNames() {
        String order = orderOf(7);
        boolean known = order.indexOf('a') < order.indexOf('z') && order.indexOf('z') < order.indexOf('b');
        Check.same("the order for the seed 7", known, true);
        Check.same("names by their letters, blanks first, then numbers", listOf(Offices.drawn(sixNames(), 7), 0),
                "214503");
    }

    /** The first and the last letters of the order, where a mistake in one character reaches the one before it. */
    private static void orderOfLastLetters() {
        String order = orderOf(7);
        String first = order.substring(0, 1);
        String second = order.substring(1, 2);
        String last = order.substring(25);
        Nominator office = Offices.drawn(standing(second, first + last, last + last + last + last, first), 7);
        Check.same("a first letter goes before all others", listOf(office, 0), "3102");
        office = Offices.drawn(standing(first + second, first + first + last + last, first + first + last), 7);
        Check.same("a second letter goes before all others", listOf(office, 0), "210");
    }

    private static void orderWithEverySeed() {
        for (int seed = -50; seed < 50; seed++) {
            Nominator office = Offices.drawn(sixNames(), seed);
            String order = " " + orderOf(seed);
            String list = listOf(office, 0);
            for (int k = 1; k < list.length(); k++) {
                int one = list.charAt(k - 1) - '0';
                int other = list.charAt(k) - '0';
                Check.same("seed " + seed + ": " + list, isBefore(office, order, one, other), true);
            }
        }
    }

    private static boolean isBefore(Nominator office, String order, int one, int other) {
        for (int k = 0; k < 4; k++) {
            int place = order.indexOf(office.surname(one, k));
            int otherPlace = order.indexOf(office.surname(other, k));
            if (place != otherPlace) {
                return place < otherPlace;
            }
        }
        return one < other;
    }

    private static Nominator drawnNames() {
        return Offices.drawn(sixNames(), 7);
    }

    private static void ballot() {
        Check.same("ballot of the precinct 0", listOf(drawnNames(), 0), "214503");
        Check.same("ballot of the precinct 2", listOf(drawnNames(), 2), "450321");
        Check.same("ballot of the precinct 6", listOf(drawnNames(), 6), "214503");
        Check.same("ballot of the precinct 999", listOf(drawnNames(), 999), "503214");
        Check.asks(BallotsTest::drawnNames, "ballot(0, 1, 5)", 2, o -> o.ballot(0, 1, 5));
        Check.refuses(BallotsTest::drawnNames, "ballot(1, 0, 0)", NOT_THERE, o -> o.ballot(1, 0, 0));
        Check.refuses(BallotsTest::drawnNames, "ballot(-1, -1, 0)", NOT_THERE, o -> o.ballot(-1, -1, 0));
        Check.refuses(BallotsTest::drawnNames, "ballot(0, -1, 0)", RANGE, o -> o.ballot(0, -1, 0));
        Check.refuses(BallotsTest::drawnNames, "ballot(0, 1000, 0)", RANGE, o -> o.ballot(0, 1000, 0));
        Check.refuses(BallotsTest::sixNames, "ballot(0, 1000, 0) before the draw", RANGE, o -> o.ballot(0, 1000, 0));
        Check.refuses(BallotsTest::sixNames, "ballot before the draw", STATE, o -> o.ballot(0, 0, 6));
        Class<java.util.NoSuchElementException> none = java.util.NoSuchElementException.class;
        Check.refuses(BallotsTest::drawnNames, "ballot(0, 0, 6)", none, o -> o.ballot(0, 0, 6));
        Check.refuses(BallotsTest::drawnNames, "ballot(0, 0, -1)", none, o -> o.ballot(0, 0, -1));
        Check.refuses(BallotsTest::drawnNames, "ballot(0, 0, largest)", none,
                o -> o.ballot(0, 999, Integer.MAX_VALUE));
        Check.refuses(BallotsTest::emptyBallot, "a ballot without papers", none, o -> o.ballot(0, 5, 0));
    }

    private static Nominator emptyBallot() {
        return Offices.drawn(Offices.withdrawn(Offices.closed(), 0), 7);
    }

    private static void ballotFollowsWhoStands() {
        Nominator office = drawnNames();
        office.withdraw(3);
        Check.same("ballot without a withdrawn paper", listOf(office, 0), "21450");
        office.die(5);
        Check.same("ballot without a dead candidate", listOf(office, 1), "1402");
        Offices.replace(office, 5, "a");
        Check.same("ballot with a replaced candidate", listOf(office, 0), "52140");
    }

    private static void placeOnBallot() {
        Nominator office = drawnNames();
        int[] precincts = {0, 1, 5, 6, 998, 999};
        for (int precinct : precincts) {
            String list = listOf(office, precinct);
            for (int k = 0; k < 6; k++) {
                Check.same("placeOnBallot(" + k + ", " + precinct + ")", office.placeOnBallot(k, precinct),
                        list.indexOf('0' + k));
            }
        }
        Check.asks(BallotsTest::drawnNames, "placeOnBallot(3, 2)", 3, o -> o.placeOnBallot(3, 2));
        Check.refuses(BallotsTest::drawnNames, "placeOnBallot(6, 0)", NOT_THERE, o -> o.placeOnBallot(6, 0));
        Check.refuses(BallotsTest::drawnNames, "placeOnBallot(-1, -1)", NOT_THERE, o -> o.placeOnBallot(-1, -1));
        Check.refuses(BallotsTest::drawnNames, "placeOnBallot(0, -1)", RANGE, o -> o.placeOnBallot(0, -1));
        Check.refuses(BallotsTest::drawnNames, "placeOnBallot(0, 1000)", RANGE, o -> o.placeOnBallot(0, 1000));
        Check.refuses(BallotsTest::sixNames, "placeOnBallot(0, 1000) before the draw", RANGE,
                o -> o.placeOnBallot(0, 1000));
        Check.refuses(BallotsTest::sixNames, "placeOnBallot before the draw", STATE, o -> o.placeOnBallot(0, 0));
        Check.refuses(() -> Offices.drawn(Offices.closed(), 7), "place of a rejected paper", STATE,
                o -> o.placeOnBallot(1, 0));
        Check.refuses(BallotsTest::emptyBallot, "place of a withdrawn paper", STATE, o -> o.placeOnBallot(0, 0));
    }
}
