import java.util.NoSuchElementException;

/** The edges of signatures: "Signatures" among the terms, and the promises 22 to 28. Each test tells its sentence. */
public final class SignaturesEdgesTest {
    private static final Class<IndexOutOfBoundsException> NOT_THERE = IndexOutOfBoundsException.class;
    private static final Class<IllegalArgumentException> RANGE = IllegalArgumentException.class;
    private static final Class<IllegalStateException> STATE = IllegalStateException.class;
    private static final Class<NoSuchElementException> NONE = NoSuchElementException.class;

    private SignaturesEdgesTest() {
    }

    public static void main(String[] args) {
        severalPapersAndOneSeveralTimes();
        localWhenHandedIn();
        countsIfAllHold();
        eachEarlierLocalSignature();
        afterTheClose();
        countedRange();
        firstResultApplies();
        resultNumbers();
        wouldCountAsSignDoes();
        wouldCountWithoutLimit();
        wouldCountRefuses();
        paperOfTheOneThatCounts();
        gainRefuses();
        gainOfNone();
        gainIsNotLessThanNothing();
        fewestIsNothingIfEnoughCount();
        fewestWithFirstAndLast();
        fewestOfAnyArea();
        fewestHasNoSet();
        fewestRefuses();
        questionsOfFullOffice();
        Check.end();
    }

    /** Papers 0 to papers - 1 of independents in the area 0, which needs so many signatures, and voters there. */
    private static Nominator oneArea(int needed, int papers, int voters) {
        Nominator office = new Nominator();
        office.addArea(needed, 0);
        Offices.addVoters(office, 0, voters);
        for (int k = 0; k < papers; k++) {
            Offices.file(office, 0, Nominator.INDEPENDENT, "a");
        }
        return office;
    }

    private static Nominator signed(Nominator office, int... pairs) {
        for (int k = 0; k < pairs.length; k += 2) {
            office.sign(pairs[k], pairs[k + 1]);
        }
        return office;
    }

    /** "A voter can sign several papers, and one paper several times." */
    private static void severalPapersAndOneSeveralTimes() {
        Nominator office = Offices.fourPapers();
        Check.same("the first", office.sign(0, 0), 0);
        Check.same("the same again", office.sign(0, 0), 1);
        Check.same("another paper", office.sign(1, 0), 2);
        Check.same("a paper of another area", office.sign(3, 0), 3);
        Check.same("the first counts", office.signatureResult(0), Nominator.COUNTS);
        Check.same("the same again does not", office.signatureResult(1), Nominator.SIGNED_EARLIER);
        Check.same("nor does another paper", office.signatureResult(2), Nominator.SIGNED_EARLIER);
        Check.same("nor that of another area", office.signatureResult(3), Nominator.NOT_LOCAL);
        Check.same("counted", office.counted(0), 1);
    }

    /** "local if the voter was on the roll and in the area of the paper when it was handed in" */
    private static void localWhenHandedIn() {
        Nominator office = Offices.fourPapers();
        office.strike(0);
        office.sign(0, 0);
        office.sign(0, 4);
        office.restore(0);
        office.move(4, 0);
        Check.same("struck off when it was handed in", office.signatureResult(0), Nominator.NOT_LOCAL);
        Check.same("elsewhere when it was handed in", office.signatureResult(1), Nominator.NOT_LOCAL);
        office.sign(0, 0);
        office.sign(0, 4);
        Check.same("on the roll now", office.signatureResult(2), Nominator.COUNTS);
        Check.same("here now", office.signatureResult(3), Nominator.COUNTS);
        office.move(0, 1);
        office.move(4, 1);
        Check.same("away afterwards", office.signatureResult(2), Nominator.COUNTS);
        Check.same("back again afterwards", office.counted(0), 2);
    }

    /** "a signature counts if all of the following hold": each of the four conditions fails once, alone. */
    private static void countsIfAllHold() {
        Check.asks(() -> signed(Offices.fourPapers(), 0, 0), "all hold", Nominator.COUNTS,
                o -> o.signatureResult(0));
        Check.asks(() -> signed(Offices.fourPapers(), 3, 0), "it is not local", Nominator.NOT_LOCAL,
                o -> o.signatureResult(0));
        Check.asks(() -> Offices.struckOff(signed(Offices.fourPapers(), 0, 0), 0), "its voter is struck off",
                Nominator.STRUCK_OFF, o -> o.signatureResult(0));
        Check.asks(() -> Offices.withdrawn(signed(Offices.fourPapers(), 0, 0), 0), "its paper is withdrawn",
                Nominator.PAPER_WITHDRAWN, o -> o.signatureResult(0));
        Check.asks(() -> signed(Offices.fourPapers(), 1, 0, 0, 0), "an earlier one", Nominator.SIGNED_EARLIER,
                o -> o.signatureResult(1));
    }

    /** "each earlier local signature of the same voter belongs to a paper that is withdrawn" */
    private static void eachEarlierLocalSignature() {
        Nominator office = signed(oneArea(1, 12, 1), 0, 0, 11, 0, 5, 0);
        office.withdraw(0);
        Check.same("one of two is withdrawn", office.signatureResult(2), Nominator.SIGNED_EARLIER);
        office.withdraw(11);
        Check.same("both are withdrawn", office.signatureResult(2), Nominator.COUNTS);
        Check.same("of the same voter alone", signed(oneArea(1, 2, 2), 0, 0, 1, 1).signatureResult(1),
                Nominator.COUNTS);
        Check.same("later ones do not matter", signed(oneArea(1, 2, 1), 0, 0, 1, 0).signatureResult(0),
                Nominator.COUNTS);
        Nominator other = Offices.fourPapers();
        other.sign(3, 0);
        other.sign(0, 0);
        Check.same("those that are not local do not matter", other.signatureResult(1), Nominator.COUNTS);
        other.strike(0);
        other.sign(1, 0);
        other.restore(0);
        other.withdraw(0);
        other.sign(2, 0);
        Check.same("nor does one of a voter who was struck off", other.signatureResult(3), Nominator.COUNTS);
        Nominator far = Offices.fourPapers();
        far.sign(0, 0);
        far.move(0, 1);
        far.sign(3, 0);
        Check.same("one of another area matters", far.signatureResult(1), Nominator.SIGNED_EARLIER);
    }

    /** "After the close, the signatures that count are those that counted at the close, whatever happens later." */
    private static void afterTheClose() {
        Nominator office = Offices.readyToClose();
        signed(office, 1, 0, 0, 4);
        office.strike(2);
        office.pass(21);
        office.restore(2);
        office.strike(0);
        office.move(0, 1);
        office.withdraw(0);
        Check.same("counted at the close", office.signatureResult(0), Nominator.COUNTS);
        Check.same("struck off at the close", office.signatureResult(2), Nominator.STRUCK_OFF);
        Check.same("signed earlier at the close", office.signatureResult(5), Nominator.SIGNED_EARLIER);
        Check.same("not local at the close", office.signatureResult(6), Nominator.NOT_LOCAL);
        Check.same("counted(0)", office.counted(0), 2);
        Check.same("counted(2)", office.counted(2), 1);
        Check.same("paperOf(0)", office.paperOf(0), 0);
        Check.same("paperOf(2)", Check.outcomeOf(() -> office.paperOf(2)), "NoSuchElementException");
        office.pass(30);
        office.pass(30);
        Check.same("counted(0) on day 81", office.counted(0), 2);
        Nominator open = Offices.withdrawn(Offices.readyToClose(), 0);
        open.pass(21);
        Check.same("withdrawn at the close", open.signatureResult(0), Nominator.PAPER_WITHDRAWN);
    }

    /** "Returns how many signatures of a paper count", from none to all forty voters. */
    private static void countedRange() {
        Check.asks(Offices::fourPapers, "counted without signatures", 0, o -> o.counted(0));
        Nominator office = oneArea(10, 2, 40);
        for (int k = 0; k < 40; k++) {
            office.sign(1, k);
            Check.same("counted after " + (k + 1), office.counted(1), k + 1);
        }
        Check.same("counted of the other paper", office.counted(0), 0);
        Check.same("paperOf the last one", office.paperOf(39), 1);
        Check.refuses(Offices::twoAreas, "counted without papers", NOT_THERE, o -> o.counted(0));
        Check.refuses(Offices::fourPapers, "counted(-1)", NOT_THERE, o -> o.counted(-1));
        Check.asks(Offices::fourPapers, "counted(3)", 0, o -> o.counted(3));
        Check.refuses(Offices::fourPapers, "counted(4)", NOT_THERE, o -> o.counted(4));
    }

    /** "the first of NOT_LOCAL, STRUCK_OFF, PAPER_WITHDRAWN and SIGNED_EARLIER that applies": each pair of them. */
    private static void firstResultApplies() {
        Check.asks(() -> Offices.struckOff(signed(Offices.fourPapers(), 3, 0), 0), "not local, struck off",
                Nominator.NOT_LOCAL, o -> o.signatureResult(0));
        Check.asks(() -> Offices.withdrawn(signed(Offices.fourPapers(), 3, 0), 3), "not local, withdrawn",
                Nominator.NOT_LOCAL, o -> o.signatureResult(0));
        Check.asks(() -> signed(Offices.fourPapers(), 0, 0, 3, 0), "not local, signed earlier",
                Nominator.NOT_LOCAL, o -> o.signatureResult(1));
        Check.asks(() -> Offices.struckOff(Offices.withdrawn(signed(Offices.fourPapers(), 0, 0), 0), 0),
                "struck off, withdrawn", Nominator.STRUCK_OFF, o -> o.signatureResult(0));
        Check.asks(() -> Offices.struckOff(signed(Offices.fourPapers(), 0, 0, 1, 0), 0),
                "struck off, signed earlier", Nominator.STRUCK_OFF, o -> o.signatureResult(1));
        Check.asks(() -> Offices.withdrawn(signed(Offices.fourPapers(), 0, 0, 1, 0), 1),
                "withdrawn, signed earlier", Nominator.PAPER_WITHDRAWN, o -> o.signatureResult(1));
        Check.asks(() -> Offices.struckOff(Offices.withdrawn(signed(Offices.fourPapers(), 0, 0, 3, 0), 3), 0),
                "all four", Nominator.NOT_LOCAL, o -> o.signatureResult(1));
    }

    /** Of signatureResult: "IndexOutOfBoundsException if there is no such signature" */
    private static void resultNumbers() {
        Check.refuses(Offices::fourPapers, "signatureResult without signatures", NOT_THERE,
                o -> o.signatureResult(0));
        Check.refuses(Offices::readyToClose, "signatureResult(-1)", NOT_THERE, o -> o.signatureResult(-1));
        Check.asks(Offices::readyToClose, "signatureResult(4)", Nominator.COUNTS, o -> o.signatureResult(4));
        Check.refuses(Offices::readyToClose, "signatureResult(5)", NOT_THERE, o -> o.signatureResult(5));
        Check.refuses(Offices::closed, "signatureResult(5) after the close", NOT_THERE, o -> o.signatureResult(5));
        Check.asks(Offices::full, "signatureResult(149)", Nominator.SIGNED_EARLIER, o -> o.signatureResult(149));
        Check.refuses(Offices::full, "signatureResult(150)", NOT_THERE, o -> o.signatureResult(150));
        Check.refuses(Offices::full, "signatureResult(largest)", NOT_THERE,
                o -> o.signatureResult(Integer.MAX_VALUE));
        Check.refuses(Offices::full, "signatureResult(least)", NOT_THERE, o -> o.signatureResult(Integer.MIN_VALUE));
    }

    /** "whether a signature would count if it were handed in now": as it does when it is. */
    private static void wouldCountAsSignDoes() {
        for (int paper = 0; paper < 4; paper++) {
            for (int voter = 0; voter < 6; voter++) {
                Nominator office = Offices.readyToClose();
                office.strike(1);
                office.withdraw(2);
                int number = paper;
                int signer = voter;
                Object would = Check.outcomeOf(() -> office.wouldCount(number, signer));
                Object counts = Check.outcomeOf(
                        () -> office.signatureResult(office.sign(number, signer)) == Nominator.COUNTS);
                Check.same("wouldCount(" + paper + ", " + voter + ")", would, counts);
            }
        }
        Check.asks(() -> Offices.struckOff(Offices.fourPapers(), 0), "one who is struck off", false,
                o -> o.wouldCount(0, 0));
        Check.asks(Offices::fourPapers, "one of this area", true, o -> o.wouldCount(0, 0));
        Check.asks(Offices::fourPapers, "one of another area", false, o -> o.wouldCount(3, 0));
        Check.asks(() -> signed(Offices.fourPapers(), 0, 0), "one who has signed this paper", false,
                o -> o.wouldCount(0, 0));
        Check.asks(() -> signed(Offices.fourPapers(), 1, 0), "one who has signed another", false,
                o -> o.wouldCount(0, 0));
        Check.asks(() -> Offices.withdrawn(signed(Offices.fourPapers(), 1, 0), 1), "another that is withdrawn", true,
                o -> o.wouldCount(0, 0));
    }

    /** "the limit of 150 signatures does not matter" */
    private static void wouldCountWithoutLimit() {
        Nominator office = oneArea(1, 2, 2);
        for (int k = 0; k < 150; k++) {
            office.sign(k % 2, 0);
        }
        Check.same("a voter who has not signed", office.wouldCount(1, 1), true);
        Check.same("a voter who has signed", office.wouldCount(1, 0), false);
        Check.same("sign itself", Check.outcomeOf(() -> office.sign(1, 1)), "IllegalStateException");
        Check.same("a voter who has not signed, again", office.wouldCount(1, 1), true);
        Check.same("counted", office.counted(1), 0);
    }

    /** Of wouldCount: "IllegalStateException if the office is closed, or the paper is withdrawn" */
    private static void wouldCountRefuses() {
        Check.asks(Offices::closingDay, "wouldCount on the closing day", true, o -> o.wouldCount(3, 5));
        Check.refuses(Offices::closed, "wouldCount on the day after", STATE, o -> o.wouldCount(3, 5));
        Check.refuses(() -> Offices.withdrawn(Offices.fourPapers(), 1), "wouldCount of a withdrawn paper", STATE,
                o -> o.wouldCount(1, 0));
        Check.asks(() -> Offices.withdrawn(Offices.fourPapers(), 1), "wouldCount of another paper", true,
                o -> o.wouldCount(2, 0));
        Check.refuses(Nominator::new, "wouldCount in a new office", NOT_THERE, o -> o.wouldCount(0, 0));
        Check.refuses(Offices::twoAreas, "wouldCount without papers", NOT_THERE, o -> o.wouldCount(0, 0));
        Check.refuses(Offices::fourPapers, "wouldCount(-1, 0)", NOT_THERE, o -> o.wouldCount(-1, 0));
        Check.refuses(Offices::fourPapers, "wouldCount(4, 0)", NOT_THERE, o -> o.wouldCount(4, 0));
        Check.refuses(Offices::fourPapers, "wouldCount(0, -1)", NOT_THERE, o -> o.wouldCount(0, -1));
        Check.refuses(Offices::fourPapers, "wouldCount(0, 6)", NOT_THERE, o -> o.wouldCount(0, 6));
        Check.asks(Offices::fourPapers, "wouldCount(3, 5)", true, o -> o.wouldCount(3, 5));
    }

    /** "the paper for which a signature of a voter counts", "NoSuchElementException if no signature ... counts" */
    private static void paperOfTheOneThatCounts() {
        Check.refuses(Nominator::new, "paperOf in a new office", NOT_THERE, o -> o.paperOf(0));
        Check.refuses(Offices::twoAreas, "paperOf without papers", NONE, o -> o.paperOf(0));
        Check.refuses(Offices::readyToClose, "paperOf(-1)", NOT_THERE, o -> o.paperOf(-1));
        Check.asks(Offices::readyToClose, "paperOf(0)", 0, o -> o.paperOf(0));
        Check.refuses(Offices::readyToClose, "paperOf one without signatures", NONE, o -> o.paperOf(5));
        Check.refuses(Offices::readyToClose, "paperOf(6)", NOT_THERE, o -> o.paperOf(6));
        Check.refuses(() -> signed(Offices.fourPapers(), 3, 0), "paperOf one whose signature is not local", NONE,
                o -> o.paperOf(0));
        Check.refuses(() -> Offices.struckOff(Offices.readyToClose(), 0), "paperOf one struck off", NONE,
                o -> o.paperOf(0));
        Check.refuses(() -> Offices.withdrawn(Offices.readyToClose(), 0), "paperOf one of a withdrawn paper", NONE,
                o -> o.paperOf(0));
        Check.asks(() -> Offices.withdrawn(signed(oneArea(1, 12, 40), 0, 39, 11, 39), 0), "the second one counts", 11,
                o -> o.paperOf(39));
        Check.asks(() -> signed(oneArea(1, 12, 40), 0, 39, 11, 39), "the first one counts", 0, o -> o.paperOf(39));
    }

    /** Voter 0 signs the papers 0 and 1, voter 1 the papers 0, 2 and 1, voter 2 the paper 1; the paper 3 has none. */
    private static Nominator blocked() {
        return signed(oneArea(3, 4, 3), 0, 0, 1, 0, 0, 1, 2, 1, 1, 1, 1, 2);
    }

    /** Of gain: its three exceptions, next to what is allowed. */
    private static void gainRefuses() {
        Check.refuses(SignaturesEdgesTest::blocked, "gain(-1, 0)", NOT_THERE, o -> o.gain(-1, 0));
        Check.refuses(SignaturesEdgesTest::blocked, "gain(4, 0)", NOT_THERE, o -> o.gain(4, 0));
        Check.refuses(SignaturesEdgesTest::blocked, "gain(0, -1)", NOT_THERE, o -> o.gain(0, -1));
        Check.refuses(SignaturesEdgesTest::blocked, "gain(0, 4)", NOT_THERE, o -> o.gain(0, 4));
        Check.asks(SignaturesEdgesTest::blocked, "gain(3, 0)", 0, o -> o.gain(3, 0));
        Check.asks(SignaturesEdgesTest::blocked, "gain(0, 3)", 0, o -> o.gain(0, 3));
        Check.refuses(SignaturesEdgesTest::blocked, "gain(0, 0)", RANGE, o -> o.gain(0, 0));
        Check.refuses(SignaturesEdgesTest::blocked, "gain(3, 3)", RANGE, o -> o.gain(3, 3));
        Check.asks(() -> Offices.later(blocked(), 20), "gain on the closing day", 1, o -> o.gain(1, 0));
        Check.refuses(() -> Offices.later(blocked(), 21), "gain on the day after", STATE, o -> o.gain(1, 0));
        Check.refuses(() -> Offices.withdrawn(blocked(), 1), "gain of a withdrawn paper", STATE, o -> o.gain(1, 0));
        Check.refuses(Offices::twoAreas, "gain without papers", NOT_THERE, o -> o.gain(0, 0));
    }

    /** "0 if the other paper is withdrawn already" */
    private static void gainOfNone() {
        Check.asks(SignaturesEdgesTest::blocked, "gain(1, 0) before", 1, o -> o.gain(1, 0));
        Check.asks(() -> Offices.withdrawn(blocked(), 0), "gain(1, 0) after", 0, o -> o.gain(1, 0));
        Check.asks(() -> Offices.withdrawn(blocked(), 0), "gain(1, 2) after", 1, o -> o.gain(1, 2));
        Check.asks(SignaturesEdgesTest::blocked, "gain(1, 2) before", 0, o -> o.gain(1, 2));
    }

    /** "how many more signatures of a paper would count if another paper were withdrawn now": as withdraw shows. */
    private static void gainIsNotLessThanNothing() {
        for (int paper = 0; paper < 4; paper++) {
            for (int other = 0; other < 4; other++) {
                if (paper != other) {
                    Nominator office = blocked();
                    int gain = office.gain(paper, other);
                    int before = office.counted(paper);
                    office.withdraw(other);
                    Check.same("gain(" + paper + ", " + other + ")", gain, office.counted(paper) - before);
                }
            }
        }
        Nominator most = oneArea(10, 2, 40);
        for (int k = 0; k < 40; k++) {
            signed(most, 0, k, 1, k);
        }
        Check.same("forty at once", most.gain(1, 0), 40);
        Check.same("none the other way round", most.gain(0, 1), 0);
    }

    /** "0 if enough signatures count already" */
    private static void fewestIsNothingIfEnoughCount() {
        Check.asks(() -> signed(oneArea(1, 2, 2), 0, 0, 1, 0), "no blocked one is needed", 0,
                o -> o.fewestWithdrawals(0));
        Check.asks(() -> signed(oneArea(1, 2, 2), 0, 0, 1, 0, 1, 1), "one is blocked, one counts", 0,
                o -> o.fewestWithdrawals(1));
        Check.asks(() -> signed(oneArea(2, 2, 2), 0, 0, 1, 0, 1, 1), "one counts, two are needed", 1,
                o -> o.fewestWithdrawals(1));
        Nominator ten = oneArea(10, 1, 10);
        for (int k = 0; k < 9; k++) {
            ten.sign(0, k);
        }
        Check.same("nine of ten", Check.outcomeOf(() -> ten.fewestWithdrawals(0)), "NoSuchElementException");
        ten.sign(0, 9);
        Check.same("ten of ten", ten.fewestWithdrawals(0), 0);
    }

    /** "the bit k is 1 if the paper k belongs to it": the first and the last paper, none and all of the others. */
    private static void fewestWithFirstAndLast() {
        Check.asks(() -> signed(oneArea(1, 12, 1), 0, 0, 11, 0), "the first paper", 1, o -> o.fewestWithdrawals(11));
        Check.asks(() -> signed(oneArea(1, 12, 1), 11, 0, 0, 0), "the last paper", 1 << 11,
                o -> o.fewestWithdrawals(0));
        Check.asks(() -> signed(oneArea(2, 12, 2), 11, 0, 0, 1, 5, 0, 5, 1), "both of them", 1 << 11 | 1,
                o -> o.fewestWithdrawals(5));
        Nominator all = oneArea(1, 12, 1);
        for (int k = 0; k < 11; k++) {
            all.sign(11 - k, 0);
        }
        all.sign(0, 0);
        Check.same("all of the others", all.fewestWithdrawals(0), 0xffe);
        Check.asks(() -> signed(oneArea(1, 12, 2), 4, 0, 9, 1, 6, 0, 6, 1), "the lower of two sets", 1 << 4,
                o -> o.fewestWithdrawals(6));
        Check.asks(() -> signed(oneArea(1, 12, 2), 9, 0, 4, 1, 6, 0, 6, 1), "the lower one signed later", 1 << 4,
                o -> o.fewestWithdrawals(6));
        Check.asks(() -> signed(oneArea(1, 12, 2), 0, 0, 1, 0, 11, 1, 6, 0, 6, 1), "one high against two low", 1 << 11,
                o -> o.fewestWithdrawals(6));
        Check.asks(() -> Offices.withdrawn(signed(oneArea(1, 12, 1), 0, 0, 1, 0, 6, 0), 0),
                "one is withdrawn already", 2, o -> o.fewestWithdrawals(6));
    }

    /** "the smallest set of other papers, of any area" */
    private static void fewestOfAnyArea() {
        Nominator office = Offices.fourPapers();
        office.move(0, 1);
        office.sign(3, 0);
        office.move(0, 0);
        office.sign(0, 0);
        office.sign(0, 1);
        Check.same("a paper of another area", office.fewestWithdrawals(0), 1 << 3);
        Check.same("its gain", office.gain(0, 3), 1);
    }

    /** "NoSuchElementException if there is no such set" */
    private static void fewestHasNoSet() {
        Check.refuses(Offices::fourPapers, "no signatures", NONE, o -> o.fewestWithdrawals(0));
        Check.refuses(() -> signed(oneArea(2, 2, 2), 1, 0, 1, 0), "the same voter twice", NONE,
                o -> o.fewestWithdrawals(1));
        Check.refuses(() -> Offices.struckOff(signed(oneArea(2, 2, 2), 0, 0, 1, 0, 1, 1), 1),
                "a voter who is struck off", NONE, o -> o.fewestWithdrawals(1));
        Check.refuses(() -> signed(Offices.fourPapers(), 0, 0, 0, 4), "a signature that is not local", NONE,
                o -> o.fewestWithdrawals(0));
        Check.refuses(SignaturesEdgesTest::blocked, "two of three", NONE, o -> o.fewestWithdrawals(0));
        Check.asks(SignaturesEdgesTest::blocked, "three of three", 0b101, o -> o.fewestWithdrawals(1));
    }

    /** Of fewestWithdrawals: its first two exceptions, next to what is allowed. */
    private static void fewestRefuses() {
        Check.refuses(Offices::twoAreas, "fewestWithdrawals without papers", NOT_THERE, o -> o.fewestWithdrawals(0));
        Check.refuses(SignaturesEdgesTest::blocked, "fewestWithdrawals(-1)", NOT_THERE,
                o -> o.fewestWithdrawals(-1));
        Check.refuses(SignaturesEdgesTest::blocked, "fewestWithdrawals(3)", NONE, o -> o.fewestWithdrawals(3));
        Check.refuses(SignaturesEdgesTest::blocked, "fewestWithdrawals(4)", NOT_THERE, o -> o.fewestWithdrawals(4));
        Check.asks(() -> Offices.later(blocked(), 20), "fewestWithdrawals on the closing day", 0b101,
                o -> o.fewestWithdrawals(1));
        Check.refuses(() -> Offices.later(blocked(), 21), "fewestWithdrawals on the day after", STATE,
                o -> o.fewestWithdrawals(1));
        Check.refuses(() -> Offices.withdrawn(blocked(), 1), "fewestWithdrawals of a withdrawn paper", STATE,
                o -> o.fewestWithdrawals(1));
        Check.asks(() -> Offices.withdrawn(blocked(), 0), "fewestWithdrawals of another paper", 0b100,
                o -> o.fewestWithdrawals(1));
    }

    /** The last of all there can be, with 150 signatures. */
    private static void questionsOfFullOffice() {
        Check.asks(Offices::full, "signatures", 150, o -> o.signatures());
        Check.asks(Offices::full, "counted(0)", 8, o -> o.counted(0));
        Check.asks(Offices::full, "counted(11)", 0, o -> o.counted(11));
        Check.asks(Offices::full, "gain(11, 6)", 0, o -> o.gain(11, 6));
        Check.asks(Offices::full, "gain(11, 1)", 0, o -> o.gain(11, 1));
        Check.asks(() -> Offices.withdrawn(Offices.full(), 1), "gain(11, 6) without the paper 1", 8,
                o -> o.gain(11, 6));
        Check.asks(Offices::full, "fewestWithdrawals(11)", 1 << 6 | 1 << 1, o -> o.fewestWithdrawals(11));
        Check.asks(Offices::full, "paperOf(39)", 4, o -> o.paperOf(39));
        Check.asks(Offices::full, "wouldCount(11, 39)", false, o -> o.wouldCount(11, 39));
    }
}
