/** The edges of papers: "Papers" among the terms, and the promises 13 to 17 and 21. Each test tells its sentence. */
public final class PapersEdgesTest {
    private static final Class<IndexOutOfBoundsException> NOT_THERE = IndexOutOfBoundsException.class;
    private static final Class<IllegalArgumentException> RANGE = IllegalArgumentException.class;
    private static final Class<IllegalStateException> STATE = IllegalStateException.class;

    private PapersEdgesTest() {
    }

    public static void main(String[] args) {
        atMostTwelvePapers();
        papersCountsAll();
        fileInAnArea();
        partyRange();
        fileWhileOpen();
        newPaper();
        withdrawnStaysWithdrawn();
        signNumbers();
        signWhileOpen();
        signForAPaperThatIsNotWithdrawn();
        atMostHundredAndFiftySignatures();
        payRange();
        payWhileOpen();
        payForAPaperThatIsNotWithdrawn();
        payManyTimes();
        withdrawOnce();
        withdrawRejected();
        withdrawUpToTheLastDayForChanges();
        withdrawCountsWhatItFrees();
        dieOnce();
        dieWithdrawnOrRejected();
        dieBeforeThePollingDay();
        dieReturnsReplaceable();
        Check.end();
    }

    private static Nominator papers(int count) {
        Nominator office = Offices.twoAreas();
        for (int k = 0; k < count; k++) {
            Offices.file(office, k % 2, k % 8, "a");
        }
        return office;
    }

    private static Object fileOne(Nominator office, int area, int party) {
        return office.file(area, party, 'm', ' ', ' ', ' ');
    }

    /** "At most 12 papers exist, numbered from 0", "IllegalStateException if ... there are 12 papers" */
    private static void atMostTwelvePapers() {
        for (int k : new int[] {0, 1, 10, 11}) {
            Check.answers(() -> papers(k), "file with " + k + " papers", k, o -> fileOne(o, 0, 0));
            Check.refuses(() -> papers(k), "the paper " + k + " before it is filed", NOT_THERE, o -> o.paid(k));
            Check.asks(() -> papers(k + 1), "the paper " + k, 0, o -> o.paid(k));
        }
        Check.refuses(() -> papers(12), "the paper 13", STATE, o -> fileOne(o, 0, 0));
        Check.refuses(() -> Offices.withdrawn(papers(12), 3), "the paper 13 while one is withdrawn", STATE,
                o -> fileOne(o, 1, Nominator.INDEPENDENT));
        Check.refuses(Offices::full, "the paper 13 with all there can be", STATE, o -> fileOne(o, 4, 7));
    }

    /** "Returns the number of papers, withdrawn and rejected ones included." */
    private static void papersCountsAll() {
        Check.asks(Nominator::new, "papers of a new office", 0, o -> o.papers());
        Check.asks(() -> papers(1), "one paper", 1, o -> o.papers());
        Check.asks(() -> papers(12), "twelve papers", 12, o -> o.papers());
        Check.asks(() -> Offices.withdrawn(papers(12), 11), "twelve papers, one withdrawn", 12, o -> o.papers());
        Check.asks(() -> Offices.later(papers(12), 21), "twelve papers, all rejected", 12, o -> o.papers());
    }

    /** "IndexOutOfBoundsException if there is no such area" */
    private static void fileInAnArea() {
        Check.refuses(Nominator::new, "file without areas", NOT_THERE, o -> fileOne(o, 0, 0));
        Check.refuses(Offices::twoAreas, "file in the area -1", NOT_THERE, o -> fileOne(o, -1, 0));
        Check.answers(Offices::twoAreas, "file in the area 0", 0, o -> fileOne(o, 0, 0));
        Check.answers(Offices::twoAreas, "file in the area 1", 0, o -> fileOne(o, 1, 0));
        Check.refuses(Offices::twoAreas, "file in the area 2", NOT_THERE, o -> fileOne(o, 2, 0));
        Check.refuses(Offices::twoAreas, "file in the largest area", NOT_THERE,
                o -> fileOne(o, Integer.MAX_VALUE, 0));
        Check.refuses(Offices::twoAreas, "file in the least area", NOT_THERE, o -> fileOne(o, Integer.MIN_VALUE, 0));
    }

    /** "party: the party, 0 to 7, or INDEPENDENT" */
    private static void partyRange() {
        Check.refuses(Offices::twoAreas, "party -2", RANGE, o -> fileOne(o, 0, -2));
        Check.answers(Offices::twoAreas, "party -1", 0, o -> fileOne(o, 0, -1));
        Check.answers(Offices::twoAreas, "party 0", 0, o -> fileOne(o, 0, 0));
        Check.answers(Offices::twoAreas, "party 7", 0, o -> fileOne(o, 0, 7));
        Check.refuses(Offices::twoAreas, "party 8", RANGE, o -> fileOne(o, 0, 8));
        Check.refuses(Offices::twoAreas, "largest party", RANGE, o -> fileOne(o, 0, Integer.MAX_VALUE));
        Check.refuses(Offices::twoAreas, "least party", RANGE, o -> fileOne(o, 0, Integer.MIN_VALUE));
        Check.asks(() -> partyOf(-1), "the party -1 is that of independents", false, o -> o.isReplaceable(0));
        Check.asks(() -> partyOf(0), "the party 0 is a party", true, o -> o.isReplaceable(0));
        Check.asks(() -> partyOf(7), "the party 7 is a party", true, o -> o.isReplaceable(0));
    }

    private static Nominator partyOf(int party) {
        Nominator office = Offices.twoAreas();
        fileOne(office, 0, party);
        return office;
    }

    /** Of file: "IllegalStateException if the office is closed" */
    private static void fileWhileOpen() {
        Check.answers(Offices::closingDay, "file on the closing day", 4, o -> fileOne(o, 0, 0));
        Check.refuses(Offices::closed, "file on the day after", STATE, o -> fileOne(o, 0, 0));
        Check.refuses(Offices::lastDay, "file on the last day", STATE, o -> fileOne(o, 0, 0));
        Check.refuses(() -> Offices.later(Offices.twoAreas(), 21), "the first paper on the day after", STATE,
                o -> fileOne(o, 0, 0));
    }

    /** "a paper, for which nothing has been paid and which has no signatures; its candidate is alive" */
    private static void newPaper() {
        Check.asks(() -> papers(1), "paid for a new paper", 0, o -> o.paid(0));
        Check.asks(() -> papers(1), "counted of a new paper", 0, o -> o.counted(0));
        Check.asks(() -> papers(1), "votes of a new paper", 0, o -> o.votes(0));
        Check.answers(() -> papers(1), "a new candidate is alive and dies", true, o -> o.die(0));
        Check.asks(() -> papers(1), "deposit of a new paper", Nominator.HELD, o -> o.deposit(0));
        Check.answers(() -> papers(1), "the first replacement for a new paper", 1,
                o -> Offices.replace(o, 0, "b"));
    }

    /** "A paper that has been withdrawn stays withdrawn." */
    private static void withdrawnStaysWithdrawn() {
        Nominator office = Offices.withdrawn(Offices.readyToClose(), 0);
        Check.same("reason", office.reason(0), Nominator.WITHDRAWN);
        office.strike(5);
        office.restore(5);
        Offices.file(office, 0, 1, "abel");
        Check.same("reason after another paper", office.reason(0), Nominator.WITHDRAWN);
        for (int day = 1; day <= 60; day++) {
            office.pass(1);
            Check.same("reason on day " + day, office.reason(0), Nominator.WITHDRAWN);
        }
        Check.same("withdraw once more", Check.outcomeOf(() -> office.withdraw(0)), "IllegalStateException");
    }

    /** Of sign: "IndexOutOfBoundsException if there is no such paper or no such voter" */
    private static void signNumbers() {
        Check.refuses(Nominator::new, "sign in a new office", NOT_THERE, o -> o.sign(0, 0));
        Check.refuses(Offices::twoAreas, "sign without papers", NOT_THERE, o -> o.sign(0, 0));
        Check.refuses(Offices::fourPapers, "sign(-1, 0)", NOT_THERE, o -> o.sign(-1, 0));
        Check.answers(Offices::fourPapers, "sign(0, 0)", 0, o -> o.sign(0, 0));
        Check.answers(Offices::fourPapers, "sign(3, 5)", 0, o -> o.sign(3, 5));
        Check.refuses(Offices::fourPapers, "sign(4, 5)", NOT_THERE, o -> o.sign(4, 5));
        Check.refuses(Offices::fourPapers, "sign(3, 6)", NOT_THERE, o -> o.sign(3, 6));
        Check.refuses(Offices::fourPapers, "sign(0, -1)", NOT_THERE, o -> o.sign(0, -1));
        Check.refuses(PapersEdgesTest::withoutVoters, "sign without voters", NOT_THERE, o -> o.sign(0, 0));
    }

    private static Nominator withoutVoters() {
        Nominator office = new Nominator();
        office.addArea(1, 0);
        fileOne(office, 0, 0);
        return office;
    }

    /** Of sign: "IllegalStateException if the office is closed" */
    private static void signWhileOpen() {
        Check.answers(Offices::closingDay, "sign on the closing day", 5, o -> o.sign(0, 2));
        Check.refuses(Offices::closed, "sign on the day after", STATE, o -> o.sign(0, 2));
        Check.refuses(Offices::lastDay, "sign on the last day", STATE, o -> o.sign(0, 2));
    }

    /** Of sign: "the paper is withdrawn" */
    private static void signForAPaperThatIsNotWithdrawn() {
        Check.refuses(() -> Offices.withdrawn(Offices.fourPapers(), 1), "sign for a withdrawn paper", STATE,
                o -> o.sign(1, 0));
        Check.answers(() -> Offices.withdrawn(Offices.fourPapers(), 1), "sign for the paper before it", 0,
                o -> o.sign(0, 0));
        Check.answers(() -> Offices.withdrawn(Offices.fourPapers(), 1), "sign for the paper after it", 0,
                o -> o.sign(2, 0));
    }

    private static Nominator signatures(int count) {
        Nominator office = Offices.fourPapers();
        for (int k = 0; k < count; k++) {
            office.sign(k % 3, 0);
        }
        return office;
    }

    /** "At most 150 signatures exist, numbered from 0", "or there are 150 signatures" */
    private static void atMostHundredAndFiftySignatures() {
        for (int k : new int[] {0, 1, 148, 149}) {
            Check.answers(() -> signatures(k), "sign with " + k + " signatures", k, o -> o.sign(0, 1));
            Check.refuses(() -> signatures(k), "the signature " + k + " before it is there", NOT_THERE,
                    o -> o.signatureResult(k));
            int due = k == 0 ? Nominator.COUNTS : Nominator.SIGNED_EARLIER;
            Check.asks(() -> signatures(k + 1), "the signature " + k, due, o -> o.signatureResult(k));
            Check.asks(() -> signatures(k + 1), "signatures", k + 1, o -> o.signatures());
        }
        Check.refuses(() -> signatures(150), "the signature 151", STATE, o -> o.sign(0, 1));
        Check.refuses(() -> Offices.withdrawn(signatures(150), 0), "the signature 151 after a withdrawal", STATE,
                o -> o.sign(1, 1));
        Check.refuses(Offices::full, "the signature 151 with all there can be", STATE, o -> o.sign(11, 39));
        Check.asks(Nominator::new, "signatures of a new office", 0, o -> o.signatures());
        Check.asks(() -> Offices.withdrawn(signatures(150), 0), "signatures after a withdrawal", 150,
                o -> o.signatures());
    }

    /** "amount: the amount, 1 to 1000" */
    private static void payRange() {
        Check.refuses(Offices::fourPapers, "pay(0, 0)", RANGE, o -> o.pay(0, 0));
        Check.answers(Offices::fourPapers, "pay(0, 1)", 1, o -> o.pay(0, 1));
        Check.answers(Offices::fourPapers, "pay(0, 1000)", 1000, o -> o.pay(0, 1000));
        Check.refuses(Offices::fourPapers, "pay(0, 1001)", RANGE, o -> o.pay(0, 1001));
        Check.refuses(Offices::fourPapers, "pay(0, -1)", RANGE, o -> o.pay(0, -1));
        Check.refuses(Offices::fourPapers, "pay(0, largest)", RANGE, o -> o.pay(0, Integer.MAX_VALUE));
        Check.refuses(Offices::fourPapers, "pay(0, least)", RANGE, o -> o.pay(0, Integer.MIN_VALUE));
        Check.refuses(Offices::twoAreas, "pay without papers", NOT_THERE, o -> o.pay(0, 1));
        Check.refuses(Offices::fourPapers, "pay(-1, 1)", NOT_THERE, o -> o.pay(-1, 1));
        Check.answers(Offices::fourPapers, "pay(3, 1)", 1, o -> o.pay(3, 1));
        Check.refuses(Offices::fourPapers, "pay(4, 1)", NOT_THERE, o -> o.pay(4, 1));
    }

    /** Of pay: "IllegalStateException if the office is closed" */
    private static void payWhileOpen() {
        Check.answers(Offices::closingDay, "pay on the closing day", 501, o -> o.pay(0, 1));
        Check.refuses(Offices::closed, "pay on the day after", STATE, o -> o.pay(0, 1));
        Check.refuses(Offices::closed, "pay for a rejected paper", STATE, o -> o.pay(2, 1));
        Check.refuses(Offices::lastDay, "pay on the last day", STATE, o -> o.pay(0, 1));
    }

    /** Of pay: "or the paper is withdrawn" */
    private static void payForAPaperThatIsNotWithdrawn() {
        Check.refuses(() -> Offices.withdrawn(Offices.readyToClose(), 1), "pay for a withdrawn paper", STATE,
                o -> o.pay(1, 1));
        Check.answers(() -> Offices.withdrawn(Offices.readyToClose(), 1), "pay for another paper", 501,
                o -> o.pay(0, 1));
    }

    /** "Returns what has been paid for the paper after the call", which has no end. */
    private static void payManyTimes() {
        Nominator office = Offices.fourPapers();
        for (int k = 1; k <= 400; k++) {
            Check.same("pay number " + k, office.pay(0, 1000), 1000 * k);
        }
        Check.same("paid", office.paid(0), 400000);
        Check.same("paid for another paper", office.paid(1), 0);
        Check.same("sumHeld", office.sumHeld(), 400000);
        office.withdraw(0);
        Check.same("paid after the withdrawal", office.paid(0), 400000);
    }

    /** Of withdraw: "IllegalStateException if the paper is withdrawn" */
    private static void withdrawOnce() {
        Check.answers(Offices::fourPapers, "withdraw", 0, o -> o.withdraw(1));
        Check.refuses(() -> Offices.withdrawn(Offices.fourPapers(), 1), "withdraw twice", STATE, o -> o.withdraw(1));
        Check.answers(() -> Offices.withdrawn(Offices.fourPapers(), 1), "withdraw of another one", 0,
                o -> o.withdraw(0));
        Check.refuses(() -> Offices.withdrawn(Offices.closed(), 0), "withdraw twice after the close", STATE,
                o -> o.withdraw(0));
        Check.refuses(() -> Offices.closed(Offices.withdrawn(Offices.readyToClose(), 0)),
                "withdraw before and after the close", STATE, o -> o.withdraw(0));
        Check.refuses(Offices::twoAreas, "withdraw without papers", NOT_THERE, o -> o.withdraw(0));
        Check.refuses(Offices::fourPapers, "withdraw(-1)", NOT_THERE, o -> o.withdraw(-1));
        Check.answers(Offices::fourPapers, "withdraw(3)", 0, o -> o.withdraw(3));
        Check.refuses(Offices::fourPapers, "withdraw(4)", NOT_THERE, o -> o.withdraw(4));
    }

    /** Of withdraw: "or rejected"; as long as the office is open nothing is rejected. */
    private static void withdrawRejected() {
        Check.answers(Offices::closingDay, "withdraw of what will be rejected", 0, o -> o.withdraw(1));
        Check.refuses(Offices::closed, "withdraw of a paper with too few signatures", STATE, o -> o.withdraw(1));
        Check.refuses(Offices::closed, "withdraw of a paper without the deposit", STATE, o -> o.withdraw(2));
        Check.answers(Offices::closed, "withdraw of an accepted paper", 0, o -> o.withdraw(0));
        Check.refuses(() -> Offices.closed(Offices.standing(4, 4)), "withdraw of a double", STATE, o -> o.withdraw(1));
        Check.answers(() -> Offices.closed(Offices.standing(4, 4)), "withdraw of the first one", 0, o -> o.withdraw(0));
    }

    /** Of withdraw: "or the present day is greater than the last day for changes" */
    private static void withdrawUpToTheLastDayForChanges() {
        Check.answers(Offices::lastDayForChanges, "withdraw on the last day for changes", 0, o -> o.withdraw(0));
        Check.refuses(Offices::afterChanges, "withdraw on the day after", STATE, o -> o.withdraw(0));
        Check.refuses(Offices::pollingDay, "withdraw on the polling day", STATE, o -> o.withdraw(0));
        Check.answers(() -> Offices.ofCalendar(3, 3, 4, 3), "withdraw on the closing day, the last one for changes", 0,
                o -> o.withdraw(0));
        Check.refuses(() -> Offices.ofCalendar(3, 3, 4, 4), "withdraw on the day after both", STATE,
                o -> o.withdraw(0));
    }

    /** "Returns the number of signatures of other papers that count after the call and did not count before it." */
    private static void withdrawCountsWhatItFrees() {
        Check.answers(PapersEdgesTest::blocking, "a withdrawal that frees two", 2, o -> o.withdraw(0));
        Check.answers(() -> Offices.withdrawn(blocking(), 0), "one that frees the rest", 2, o -> o.withdraw(1));
        Check.answers(PapersEdgesTest::blocking, "one that frees none, though it is signed", 0, o -> o.withdraw(2));
        Check.answers(() -> Offices.closed(blocking()), "one after the close", 0, o -> o.withdraw(0));
        Check.answers(() -> Offices.struckOff(blocking(), 0), "one whose signer is struck off", 1, o -> o.withdraw(0));
        Check.answers(() -> oneSigner(11, 0), "the last one frees the first one", 1, o -> o.withdraw(11));
        Check.answers(() -> oneSigner(0, 11), "the first one frees the last one", 1, o -> o.withdraw(0));
        Check.answers(() -> oneSigner(0, 11), "the last one frees none", 0, o -> o.withdraw(11));
        Check.answers(() -> oneSigner(4, 5, 6, 7), "one of many frees one alone", 1, o -> o.withdraw(4));
        Check.answers(() -> oneSigner(4, 4, 4, 4), "several for the same paper free none", 0, o -> o.withdraw(4));
    }

    /** One voter signs for some of twelve papers, in this order. */
    private static Nominator oneSigner(int... signed) {
        Nominator office = new Nominator();
        office.addArea(1, 0);
        office.addVoter(0);
        for (int k = 0; k < 12; k++) {
            fileOne(office, 0, Nominator.INDEPENDENT);
        }
        for (int paper : signed) {
            office.sign(paper, 0);
        }
        return office;
    }

    /** Voter 0 signs the papers 0, 1, 2; voter 1 the papers 0, 0, 2, 2; voter 2 the papers 1, 2. */
    private static Nominator blocking() {
        Nominator office = new Nominator();
        office.addArea(1, 0);
        Offices.addVoters(office, 0, 3);
        for (int k = 0; k < 3; k++) {
            fileOne(office, 0, Nominator.INDEPENDENT);
        }
        int[][] signed = {{0, 0}, {1, 0}, {2, 0}, {0, 1}, {0, 1}, {2, 1}, {2, 1}, {1, 2}, {2, 2}};
        for (int[] one : signed) {
            office.sign(one[0], one[1]);
        }
        return office;
    }

    /** Of die: "IllegalStateException if ... its candidate is dead" */
    private static void dieOnce() {
        Check.answers(Offices::fourPapers, "die", true, o -> o.die(1));
        Check.refuses(() -> Offices.dead(Offices.fourPapers(), 1), "die twice", STATE, o -> o.die(1));
        Check.refuses(() -> Offices.dead(Offices.fourPapers(), 2), "die twice, independent", STATE, o -> o.die(2));
        Check.answers(() -> Offices.dead(Offices.fourPapers(), 1), "die of another one", true, o -> o.die(0));
        Nominator office = Offices.dead(Offices.fourPapers(), 1);
        Offices.replace(office, 1, "new");
        Check.same("die of the next candidate", office.die(1), true);
        Check.refuses(Offices::twoAreas, "die without papers", NOT_THERE, o -> o.die(0));
        Check.refuses(Offices::fourPapers, "die(-1)", NOT_THERE, o -> o.die(-1));
        Check.answers(Offices::fourPapers, "die(3)", true, o -> o.die(3));
        Check.refuses(Offices::fourPapers, "die(4)", NOT_THERE, o -> o.die(4));
    }

    /** Of die: "IllegalStateException if the paper is withdrawn or rejected" */
    private static void dieWithdrawnOrRejected() {
        Check.refuses(() -> Offices.withdrawn(Offices.fourPapers(), 1), "die, withdrawn", STATE, o -> o.die(1));
        Check.refuses(() -> Offices.withdrawn(Offices.closed(), 0), "die, withdrawn late", STATE, o -> o.die(0));
        Check.refuses(Offices::closed, "die, rejected for the signatures", STATE, o -> o.die(1));
        Check.refuses(Offices::closed, "die, rejected for the deposit", STATE, o -> o.die(2));
        Check.refuses(() -> Offices.closed(Offices.standing(4, 4)), "die, rejected as a double", STATE, o -> o.die(1));
        Check.answers(Offices::closingDay, "die, to be rejected tomorrow", true, o -> o.die(1));
        Check.answers(Offices::closed, "die, accepted", true, o -> o.die(0));
    }

    /** Of die: "or the present day is not less than the polling day" */
    private static void dieBeforeThePollingDay() {
        Check.answers(Offices::dayBeforePolling, "die on the day before polling", false, o -> o.die(0));
        Check.refuses(Offices::pollingDay, "die on the polling day", STATE, o -> o.die(0));
        Check.refuses(Offices::lastDay, "die on the last day", STATE, o -> o.die(0));
        Check.answers(() -> Offices.ofCalendar(3, 3, 4, 3), "die on day 3 of 4", true, o -> o.die(0));
        Check.refuses(() -> Offices.ofCalendar(3, 3, 4, 4), "die on day 4 of 4", STATE, o -> o.die(0));
    }

    /** "Returns whether the candidate is replaceable after the call." */
    private static void dieReturnsReplaceable() {
        Check.answers(Offices::fourPapers, "die for a party", true, o -> o.die(0));
        Check.answers(Offices::fourPapers, "die of an independent", false, o -> o.die(2));
        Check.answers(Offices::closed, "die after the close", true, o -> o.die(0));
        Check.answers(Offices::lastDayForChanges, "die on the last day for changes", true, o -> o.die(0));
        Check.answers(Offices::afterChanges, "die on the day after", false, o -> o.die(0));
        Check.answers(() -> Offices.replaced(Offices.fourPapers(), 0, 1), "die after one replacement", true,
                o -> o.die(0));
        Check.answers(() -> Offices.replaced(Offices.fourPapers(), 0, 2), "die after two replacements", false,
                o -> o.die(0));
    }
}
