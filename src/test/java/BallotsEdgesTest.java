import java.math.BigInteger;
import java.util.Arrays;
import java.util.NoSuchElementException;

/** The edges of ballots: "Ballots" among the terms, and the promises 32 to 35. Each test tells its sentence. */
public final class BallotsEdgesTest {
    private static final Class<IndexOutOfBoundsException> NOT_THERE = IndexOutOfBoundsException.class;
    private static final Class<IllegalArgumentException> RANGE = IllegalArgumentException.class;
    private static final Class<IllegalStateException> STATE = IllegalStateException.class;
    private static final Class<NoSuchElementException> NONE = NoSuchElementException.class;

    private BallotsEdgesTest() {
    }

    public static void main(String[] args) {
        drawAfterTheClose();
        drawOnce();
        drawWrapsAround();
        letterPlaces();
        lettersBeforeTheDraw();
        namesWithBlanks();
        namesWithLettersNextToEachOther();
        lettersAfterAllOtherEvents();
        namesThatAreTheSame();
        onlyWhatStands();
        precinctRange();
        precinctsGoRound();
        ballotPlaces();
        ballotWithoutPapers();
        placeOnBallotRefuses();
        placeIsTheOneOnTheBallot();
        numbers();
        Check.end();
    }

    /** The order of the letters as the document tells it, in exact arithmetic that is cut to 32 bits by hand. */
    private static String orderOf(int seed) {
        BigInteger all = BigInteger.ONE.shiftLeft(32);
        BigInteger state = BigInteger.valueOf(seed).mod(all);
        StringBuilder order = new StringBuilder("abcdefghijklmnopqrstuvwxyz");
        for (int k = 25; k >= 1; k--) {
            state = state.multiply(BigInteger.valueOf(1103515245)).add(BigInteger.valueOf(12345))
                    .mod(all);
            int j = state.shiftRight(8).mod(BigInteger.valueOf(k + 1)).intValue();
            char kept = order.charAt(j);
            order.setCharAt(j, order.charAt(k));
            order.setCharAt(k, kept);
        }
        return order.toString();
    }

    /** So many papers in the area 0, all of which stand after the close; the area 1 has none. */
    private static Nominator standing(String... names) {
        Nominator office = new Nominator();
        office.addArea(1, 0);
        office.addArea(1, 0);
        for (int k = 0; k < names.length; k++) {
            office.addVoter(0);
            Offices.file(office, 0, Nominator.INDEPENDENT, names[k]);
            office.sign(k, k);
        }
        office.pass(21);
        return office;
    }

    private static Nominator drawn(int seed, String... names) {
        return Offices.drawn(standing(names), seed);
    }

    /** Three papers with different names. */
    private static Nominator three() {
        return drawn(7, "a", "b", "c");
    }

    private static String listOf(Nominator office, int precinct) {
        StringBuilder list = new StringBuilder();
        for (int k = 0; k < office.ballotSize(0); k++) {
            list.append(office.ballot(0, precinct, k)).append(' ');
        }
        return list.toString().trim();
    }

    /** "The letters are drawn once, after the close", "IllegalStateException if the office is open" */
    private static void drawAfterTheClose() {
        Check.refuses(Nominator::new, "draw in a new office", STATE, o -> o.draw(0));
        Check.refuses(Offices::closingDay, "draw on the closing day", STATE, o -> o.draw(0));
        Check.answers(Offices::closed, "draw on the day after", orderOf(0).charAt(0), o -> o.draw(0));
        Check.answers(() -> Offices.later(new Nominator(), 21), "draw without areas", orderOf(0).charAt(0),
                o -> o.draw(0));
        Check.answers(Offices::lastDay, "draw on the last day", orderOf(0).charAt(0), o -> o.draw(0));
    }

    /** "or the letters have been drawn" */
    private static void drawOnce() {
        Check.refuses(() -> Offices.drawn(Offices.closed(), 1), "draw twice", STATE, o -> o.draw(2));
        Check.refuses(() -> Offices.drawn(Offices.closed(), 1), "draw twice with one seed", STATE, o -> o.draw(1));
        Check.refuses(() -> Offices.later(Offices.drawn(Offices.closed(), 1), 30), "draw a month later", STATE,
                o -> o.draw(2));
        Nominator office = Offices.drawn(Offices.closed(), 1);
        Check.same("the second draw", Check.outcomeOf(() -> office.draw(2)), "IllegalStateException");
        Check.same("the letters of the first one", lettersOf(office), orderOf(1));
    }

    private static String lettersOf(Nominator office) {
        StringBuilder letters = new StringBuilder();
        for (int k = 0; k < 26; k++) {
            letters.append(office.letter(k));
        }
        return letters.toString();
    }

    /** "in int arithmetic that wraps around; j is the remainder of state >>> 8" */
    private static void drawWrapsAround() {
        int[] seeds = {0, 1, -1, 2, -2, 255, 256, -256, 65536, 1103515245, -1103515245, 12345, -12345, 0x40000000,
            0x7fffff00, Integer.MAX_VALUE - 1, Integer.MAX_VALUE, Integer.MIN_VALUE, Integer.MIN_VALUE + 1};
        for (int seed : seeds) {
            Nominator office = Offices.closed();
            Check.same("draw(" + seed + ")", office.draw(seed), orderOf(seed).charAt(0));
            Check.same("the letters of " + seed, lettersOf(office), orderOf(seed));
        }
    }

    /** "place: the place, 0 to 25" */
    private static void letterPlaces() {
        Check.refuses(BallotsEdgesTest::three, "letter(-1)", NOT_THERE, o -> o.letter(-1));
        Check.asks(BallotsEdgesTest::three, "letter(0)", orderOf(7).charAt(0), o -> o.letter(0));
        Check.asks(BallotsEdgesTest::three, "letter(25)", orderOf(7).charAt(25), o -> o.letter(25));
        Check.refuses(BallotsEdgesTest::three, "letter(26)", NOT_THERE, o -> o.letter(26));
        Check.refuses(BallotsEdgesTest::three, "letter(largest)", NOT_THERE, o -> o.letter(Integer.MAX_VALUE));
        Check.refuses(BallotsEdgesTest::three, "letter(least)", NOT_THERE, o -> o.letter(Integer.MIN_VALUE));
    }

    /** "IllegalStateException if the letters have not been drawn" */
    private static void lettersBeforeTheDraw() {
        Check.refuses(Nominator::new, "letter in a new office", STATE, o -> o.letter(0));
        Check.refuses(Offices::closed, "letter(0) before the draw", STATE, o -> o.letter(0));
        Check.refuses(Offices::closed, "letter(25) before the draw", STATE, o -> o.letter(25));
        Check.refuses(Offices::closed, "ballot before the draw", STATE, o -> o.ballot(0, 0, 0));
        Check.refuses(Offices::readyToClose, "ballot while open", STATE, o -> o.ballot(0, 0, 0));
        Check.refuses(Offices::closed, "placeOnBallot before the draw", STATE, o -> o.placeOnBallot(0, 0));
        Check.refuses(Offices::readyToClose, "placeOnBallot while open", STATE, o -> o.placeOnBallot(0, 0));
    }

    /** "compared character by character, where a blank is lower than all letters, and letters ... by their places" */
    private static void namesWithBlanks() {
        for (int seed : new int[] {7, -7, 1000}) {
            String order = orderOf(seed);
            String low = order.substring(0, 1);
            String high = order.substring(25);
            Check.same("a blank before the lowest letter, seed " + seed,
                    listOf(drawn(seed, low + low + low + low, low + low + low, low + low, low), 0), "3 2 1 0");
            Check.same("the lowest letter before the highest one, seed " + seed,
                    listOf(drawn(seed, high, low + high, high + low, low), 0), "3 1 0 2");
            Check.same("the first character before all others, seed " + seed,
                    listOf(drawn(seed, high, low + high + high + high), 0), "1 0");
            Check.same("the second character before the third, seed " + seed,
                    listOf(drawn(seed, low + high, low + low + high + high), 0), "1 0");
            Check.same("the last character decides, seed " + seed,
                    listOf(drawn(seed, high + high + high + high, high + high + high + low, high + high + high), 0),
                    "2 1 0");
        }
    }

    /** The same for letters in places next to each other: what follows them does not matter. */
    private static void namesWithLettersNextToEachOther() {
        String order = orderOf(99);
        String high = order.substring(25);
        for (int k = 1; k < 26; k++) {
            String one = order.substring(k - 1, k);
            String next = order.substring(k, k + 1);
            Check.same("the places " + (k - 1) + " and " + k, listOf(drawn(99, next, one), 0), "1 0");
            Check.same("the places " + (k - 1) + " and " + k + ", and one more letter",
                    listOf(drawn(99, next, one + high), 0), "1 0");
            Check.same("the places " + (k - 1) + " and " + k + ", and three more letters",
                    listOf(drawn(99, next, one + high + high + high), 0), "1 0");
            Check.same("the places " + (k - 1) + " and " + k + " at the end",
                    listOf(drawn(99, "ab" + next, "ab" + one + high), 0), "1 0");
        }
    }

    /** "IllegalStateException if the letters have not been drawn": no event but draw draws them. */
    private static void lettersAfterAllOtherEvents() {
        Nominator office = new Nominator();
        office.setCalendar(20, 25, 40);
        office.addArea(1, 0);
        office.addArea(1, 0);
        Offices.addVoters(office, 0, 3);
        Offices.file(office, 0, 1, "a");
        Offices.file(office, 0, 2, "b");
        office.sign(0, 0);
        office.sign(1, 1);
        office.pay(0, 5);
        office.move(2, 1);
        office.strike(2);
        office.restore(2);
        office.withdraw(1);
        office.die(0);
        Offices.replace(office, 0, "c");
        Offices.later(office, 40);
        office.addVotes(0, 1);
        office.finish(0);
        Check.same("letter", Check.outcomeOf(() -> office.letter(0)), "IllegalStateException");
        Check.same("ballot", Check.outcomeOf(() -> office.ballot(0, 0, 0)), "IllegalStateException");
        Check.same("placeOnBallot", Check.outcomeOf(() -> office.placeOnBallot(0, 0)), "IllegalStateException");
        Check.same("draw", office.draw(7), orderOf(7).charAt(0));
        Check.same("ballot after the draw", office.ballot(0, 0, 0), 0);
    }

    /** "papers with the same surname are ordered by their numbers" */
    private static void namesThatAreTheSame() {
        Check.same("all the same", listOf(drawn(7, "zoe", "zoe", "zoe"), 0), "0 1 2");
        Check.same("twelve of one name",
                listOf(drawn(7, "m", "m", "m", "m", "m", "m", "m", "m", "m", "m", "m", "m"), 0),
                "0 1 2 3 4 5 6 7 8 9 10 11");
        Nominator office = Offices.standing(0, 1);
        Offices.replace(office, 1, "mb");
        Offices.replace(office, 0, "mb");
        office.pass(21);
        office.draw(7);
        Check.same("the same after a replacement", listOf(office, 0), "0 1");
    }

    /** "The ballot list of an area consists of the papers of the area that stand." */
    private static void onlyWhatStands() {
        Nominator office = Offices.closed();
        office.draw(7);
        Check.same("accepted ones alone", listOf(office, 0), "0");
        office.die(0);
        Check.same("without the dead", office.ballotSize(0), 0);
        Check.same("the place of the dead", Check.outcomeOf(() -> office.placeOnBallot(0, 0)),
                "IllegalStateException");
        Offices.replace(office, 0, "new");
        Check.same("with the new one", listOf(office, 0), "0");
        office.withdraw(0);
        Check.same("without the withdrawn", Check.outcomeOf(() -> office.ballot(0, 0, 0)), "NoSuchElementException");
        Check.same("the other area", office.ballot(1, 0, 0), 3);
    }

    /** "precinct: the number of the precinct, 0 to 999" */
    private static void precinctRange() {
        Check.refuses(BallotsEdgesTest::three, "ballot(0, -1, 0)", RANGE, o -> o.ballot(0, -1, 0));
        Check.answers(BallotsEdgesTest::three, "ballot(0, 0, 0) and its place", 0,
                o -> o.placeOnBallot(o.ballot(0, 0, 0), 0));
        Check.answers(BallotsEdgesTest::three, "ballot(0, 999, 0) and its place", 0,
                o -> o.placeOnBallot(o.ballot(0, 999, 0), 999));
        Check.refuses(BallotsEdgesTest::three, "ballot(0, 1000, 0)", RANGE, o -> o.ballot(0, 1000, 0));
        Check.refuses(BallotsEdgesTest::three, "placeOnBallot(0, -1)", RANGE, o -> o.placeOnBallot(0, -1));
        Check.refuses(BallotsEdgesTest::three, "placeOnBallot(0, 1000)", RANGE, o -> o.placeOnBallot(0, 1000));
        for (int far : new int[] {Integer.MAX_VALUE, Integer.MIN_VALUE}) {
            Check.refuses(BallotsEdgesTest::three, "ballot(0, " + far + ", 0)", RANGE, o -> o.ballot(0, far, 0));
            Check.refuses(BallotsEdgesTest::three, "placeOnBallot(0, " + far + ")", RANGE,
                    o -> o.placeOnBallot(0, far));
        }
    }

    /** "begins with the paper at the place r % n ..., where the paper at the place 0 follows the last one" */
    private static void precinctsGoRound() {
        String[] names = {"m", "m", "m", "m", "m", "m", "m", "m", "m", "m", "m", "m"};
        for (int n : new int[] {1, 2, 3, 7, 11, 12}) {
            Nominator office = drawn(7, Arrays.copyOf(names, n));
            for (int precinct : new int[] {0, 1, n - 1, n, n + 1, 998, 999}) {
                StringBuilder due = new StringBuilder();
                for (int k = 0; k < n; k++) {
                    due.append((precinct % n + k) % n).append(' ');
                }
                Check.same(n + " papers, precinct " + precinct, listOf(office, precinct), due.toString().trim());
            }
        }
    }

    /** "place: the place on the ballot, from 0", "NoSuchElementException if there is no such place on the ballot" */
    private static void ballotPlaces() {
        for (int precinct : new int[] {0, 1, 2, 3, 999}) {
            Check.refuses(BallotsEdgesTest::three, "place -1 in " + precinct, NONE, o -> o.ballot(0, precinct, -1));
            Check.answers(BallotsEdgesTest::three, "place 0 in " + precinct, 0,
                    o -> o.placeOnBallot(o.ballot(0, precinct, 0), precinct));
            Check.answers(BallotsEdgesTest::three, "place 2 in " + precinct, 2,
                    o -> o.placeOnBallot(o.ballot(0, precinct, 2), precinct));
            Check.refuses(BallotsEdgesTest::three, "place 3 in " + precinct, NONE, o -> o.ballot(0, precinct, 3));
        }
        Check.refuses(BallotsEdgesTest::three, "the largest place", NONE, o -> o.ballot(0, 999, Integer.MAX_VALUE));
        Check.refuses(BallotsEdgesTest::three, "the least place", NONE, o -> o.ballot(0, 999, Integer.MIN_VALUE));
    }

    /** A ballot list with nothing in it, where r % n has no meaning. */
    private static void ballotWithoutPapers() {
        for (int precinct : new int[] {0, 1, 999}) {
            Check.refuses(BallotsEdgesTest::three, "an area without papers", NONE, o -> o.ballot(1, precinct, 0));
            Check.refuses(() -> Offices.withdrawn(drawn(7, "a"), 0), "an area whose paper is withdrawn", NONE,
                    o -> o.ballot(0, precinct, 0));
        }
        Check.asks(BallotsEdgesTest::three, "its size", 0, o -> o.ballotSize(1));
    }

    /** Of placeOnBallot: "or the paper does not stand" */
    private static void placeOnBallotRefuses() {
        Check.refuses(() -> Offices.withdrawn(three(), 1), "the place of a withdrawn paper", STATE,
                o -> o.placeOnBallot(1, 0));
        Check.refuses(() -> Offices.dead(three(), 1), "the place of a dead candidate", STATE,
                o -> o.placeOnBallot(1, 0));
        Check.refuses(() -> Offices.drawn(Offices.closed(), 7), "the place of a rejected paper", STATE,
                o -> o.placeOnBallot(2, 0));
        Check.asks(() -> Offices.drawn(Offices.closed(), 7), "the place of an accepted paper", 0,
                o -> o.placeOnBallot(3, 5));
    }

    /** "Returns the place of a paper on the ballot of a precinct of its area": ballot answers the paper again. */
    private static void placeIsTheOneOnTheBallot() {
        Nominator office = drawn(-3, "q", "abc", "q", "zz");
        for (int precinct : new int[] {0, 1, 2, 3, 4, 5, 997, 998, 999}) {
            for (int paper = 0; paper < 4; paper++) {
                Check.same("paper " + paper + ", precinct " + precinct,
                        office.ballot(0, precinct, office.placeOnBallot(paper, precinct)), paper);
            }
        }
    }

    /** "IndexOutOfBoundsException if there is no such area", "no such paper" */
    private static void numbers() {
        Check.refuses(BallotsEdgesTest::three, "ballot(-1, 0, 0)", NOT_THERE, o -> o.ballot(-1, 0, 0));
        Check.refuses(BallotsEdgesTest::three, "ballot(2, 0, 0)", NOT_THERE, o -> o.ballot(2, 0, 0));
        Check.refuses(BallotsEdgesTest::three, "placeOnBallot(-1, 0)", NOT_THERE, o -> o.placeOnBallot(-1, 0));
        Check.refuses(BallotsEdgesTest::three, "placeOnBallot(3, 0)", NOT_THERE, o -> o.placeOnBallot(3, 0));
        Check.refuses(Nominator::new, "ballot in a new office", NOT_THERE, o -> o.ballot(0, 0, 0));
        Check.refuses(Nominator::new, "placeOnBallot in a new office", NOT_THERE, o -> o.placeOnBallot(0, 0));
        Check.refuses(() -> Offices.closed(Offices.full()), "ballot of the area 5", NOT_THERE,
                o -> o.ballot(5, 0, 0));
        Check.refuses(() -> Offices.closed(Offices.full()), "placeOnBallot of the paper 12", NOT_THERE,
                o -> o.placeOnBallot(12, 0));
    }
}
