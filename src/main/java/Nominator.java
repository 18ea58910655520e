import java.util.NoSuchElementException;

/**
 * A nomination office.
 *
 * <p>The public methods look at the arguments, throw what is due, and leave the work to an {@link Office}. Every event
 * is written into a diary before it happens, so that a second office can live through all of them again.
 */
public final class Nominator {
    public static final int INDEPENDENT = -1;
    public static final int STANDS = 0;
    public static final int WITHDRAWN = 1;
    public static final int DEPOSIT_SHORT = 2;
    public static final int TOO_FEW_SIGNATURES = 3;
    public static final int DOUBLE = 4;
    public static final int DEAD = 5;
    public static final int COUNTS = 0;
    public static final int NOT_LOCAL = 1;
    public static final int STRUCK_OFF = 2;
    public static final int PAPER_WITHDRAWN = 3;
    public static final int SIGNED_EARLIER = 4;
    public static final int HELD = 0;
    public static final int RETURNED = 1;
    public static final int LOST = 2;

    private static final int MOST_AREAS = 5;
    private static final int MOST_VOTERS = 40;
    private static final int MOST_PAPERS = 12;
    private static final int MOST_SIGNATURES = 150;
    private static final int MOST_REPLACEMENTS = 2;
    // Each call is one event at the most, and an object is used for 512 calls.
    private static final int MOST_EVENTS = 512;
    private static final int MOST_NEEDED = 10;
    private static final int MOST_MONEY = 1000;
    private static final int MOST_VOTES = 10000;
    private static final int MOST_DAYS_AT_ONCE = 30;
    private static final int LAST_DAY = 99;
    private static final int LAST_POLLING_DAY = 60;
    private static final int FIRST_CLOSING_DAY = 20;
    private static final int FIRST_CHANGES_DAY = 25;
    private static final int FIRST_POLLING_DAY = 40;
    private static final int LAST_PARTY = 7;
    private static final int LAST_PRECINCT = 999;
    private static final int LETTERS = 26;
    private static final int NAME_LENGTH = 4;
    private static final char BLANK = ' ';
    private static final int NONE = -1;

    private static final int SET_CALENDAR = 0;
    private static final int PASS = 1;
    private static final int ADD_AREA = 2;
    private static final int ADD_VOTER = 3;
    private static final int MOVE = 4;
    private static final int STRIKE = 5;
    private static final int RESTORE = 6;
    private static final int FILE = 7;
    private static final int SIGN = 8;
    private static final int PAY = 9;
    private static final int WITHDRAW = 10;
    private static final int DIE = 11;
    private static final int REPLACE = 12;
    private static final int DRAW = 13;
    private static final int ADD_VOTES = 14;
    private static final int FINISH = 15;

    private final Office office;
    private final Office replayed;
    private final Diary diary;

    public Nominator() {
        office = new Office();
        replayed = new Office();
        diary = new Diary();
    }

    // ---- calendar

    public int setCalendar(int closing, int changes, int polling)
            throws IllegalArgumentException, IllegalStateException {
        if (closing < 0 || changes < closing || polling <= changes || polling > LAST_POLLING_DAY) {
            throw new IllegalArgumentException("a day is out of its range");
        }
        if (office.calendar.day != 0 || office.paperCount > 0) {
            throw new IllegalStateException("the calendar is fixed already");
        }
        int before = office.calendar.polling;
        happen(SET_CALENDAR, closing, changes, polling);
        return before;
    }

    public int pass(int days) throws IllegalArgumentException, IllegalStateException {
        if (days < 1 || days > MOST_DAYS_AT_ONCE) {
            throw new IllegalArgumentException("the number of days is out of range");
        }
        if (office.calendar.day + days > LAST_DAY) {
            throw new IllegalStateException("the last day would be passed");
        }
        happen(PASS, days, 0, 0);
        return office.calendar.day;
    }

    public int day() {
        return office.calendar.day;
    }

    public boolean isOpen() {
        return office.calendar.isBeforeClose();
    }

    // ---- roll

    public int addArea(int needed, int deposit) throws IllegalArgumentException, IllegalStateException {
        if (needed < 1 || needed > MOST_NEEDED || deposit < 0 || deposit > MOST_MONEY) {
            throw new IllegalArgumentException("the number of signatures or the deposit is out of range");
        }
        if (office.roll.areaCount >= MOST_AREAS) {
            throw new IllegalStateException("there are 5 areas");
        }
        happen(ADD_AREA, needed, deposit, 0);
        return office.roll.areaCount - 1;
    }

    public int addVoter(int area) throws IndexOutOfBoundsException, IllegalStateException {
        needArea(area);
        if (office.roll.voterCount >= MOST_VOTERS) {
            throw new IllegalStateException("there are 40 voters");
        }
        happen(ADD_VOTER, area, 0, 0);
        return office.roll.voterCount - 1;
    }

    public int move(int voter, int area) throws IndexOutOfBoundsException, UnsupportedOperationException {
        needVoter(voter);
        needArea(area);
        int before = office.roll.voters[voter].area;
        if (before == area) {
            throw new UnsupportedOperationException("the voter is in this area");
        }
        happen(MOVE, voter, area, 0);
        return before;
    }

    public int strike(int voter) throws IndexOutOfBoundsException, IllegalStateException {
        needVoter(voter);
        if (!office.roll.voters[voter].onRoll) {
            throw new IllegalStateException("the voter is struck off");
        }
        happen(STRIKE, voter, 0, 0);
        return office.roll.countOnRoll();
    }

    public int restore(int voter) throws IndexOutOfBoundsException, IllegalStateException {
        needVoter(voter);
        if (office.roll.voters[voter].onRoll) {
            throw new IllegalStateException("the voter is on the roll");
        }
        happen(RESTORE, voter, 0, 0);
        return office.roll.countOnRoll();
    }

    public int areaOf(int voter) throws IndexOutOfBoundsException {
        needVoter(voter);
        return office.roll.voters[voter].area;
    }

    public boolean isOnRoll(int voter) throws IndexOutOfBoundsException {
        needVoter(voter);
        return office.roll.voters[voter].onRoll;
    }

    // ---- papers

    public int file(int area, int party, char first, char second, char third, char fourth)
            throws IndexOutOfBoundsException, IllegalArgumentException, IllegalStateException {
        needArea(area);
        if (party < INDEPENDENT || party > LAST_PARTY) {
            throw new IllegalArgumentException("the party is out of range");
        }
        needName(first, second, third, fourth);
        needOpen();
        if (office.paperCount >= MOST_PAPERS) {
            throw new IllegalStateException("there are 12 papers");
        }
        happen(FILE, area, party, nameOf(first, second, third, fourth));
        return office.paperCount - 1;
    }

    public int sign(int paper, int voter) throws IndexOutOfBoundsException, IllegalStateException {
        needPaper(paper);
        needVoter(voter);
        needOpen();
        needNotWithdrawn(paper);
        if (office.signatureCount >= MOST_SIGNATURES) {
            throw new IllegalStateException("there are 150 signatures");
        }
        happen(SIGN, paper, voter, 0);
        return office.signatureCount - 1;
    }

    public int pay(int paper, int amount)
            throws IndexOutOfBoundsException, IllegalArgumentException, IllegalStateException {
        needPaper(paper);
        if (amount < 1 || amount > MOST_MONEY) {
            throw new IllegalArgumentException("the amount is out of range");
        }
        needOpen();
        needNotWithdrawn(paper);
        happen(PAY, paper, amount, 0);
        return office.papers[paper].paid;
    }

    public int withdraw(int paper) throws IndexOutOfBoundsException, IllegalStateException {
        needPaper(paper);
        needNotWithdrawn(paper);
        needNotRejected(paper);
        if (!office.calendar.allowsChanges()) {
            throw new IllegalStateException("the last day for changes is over");
        }
        // A withdrawal can only free signatures of other papers, so the difference is what it has freed.
        int before = office.countOfOthers(paper);
        happen(WITHDRAW, paper, 0, 0);
        return office.countOfOthers(paper) - before;
    }

    public boolean die(int paper) throws IndexOutOfBoundsException, IllegalStateException {
        needPaper(paper);
        needNotWithdrawn(paper);
        needNotRejected(paper);
        if (office.papers[paper].dead) {
            throw new IllegalStateException("the candidate is dead");
        }
        if (office.calendar.isPollingOpen()) {
            throw new IllegalStateException("the polling day has come");
        }
        happen(DIE, paper, 0, 0);
        return office.canReplace(paper);
    }

    public int replace(int paper, char first, char second, char third, char fourth)
            throws IndexOutOfBoundsException, IllegalArgumentException, IllegalStateException {
        needPaper(paper);
        needName(first, second, third, fourth);
        if (!office.canReplace(paper)) {
            throw new IllegalStateException("the candidate is not replaceable");
        }
        happen(REPLACE, paper, nameOf(first, second, third, fourth), 0);
        return office.papers[paper].replacements;
    }

    public boolean isReplaceable(int paper) throws IndexOutOfBoundsException {
        needPaper(paper);
        return office.canReplace(paper);
    }

    public char surname(int paper, int place) throws IndexOutOfBoundsException {
        needPaper(paper);
        if (place < 0 || place >= NAME_LENGTH) {
            throw new IndexOutOfBoundsException("no such place");
        }
        return characterOf(office.papers[paper].name, place);
    }

    public int papers() {
        return office.paperCount;
    }

    // ---- signatures

    public int counted(int paper) throws IndexOutOfBoundsException {
        needPaper(paper);
        return office.papers[paper].counting;
    }

    public int signatureResult(int signature) throws IndexOutOfBoundsException {
        if (signature < 0 || signature >= office.signatureCount) {
            throw new IndexOutOfBoundsException("no such signature");
        }
        return office.signatures[signature].result;
    }

    public boolean wouldCount(int paper, int voter) throws IndexOutOfBoundsException, IllegalStateException {
        needPaper(paper);
        needVoter(voter);
        needOpen();
        needNotWithdrawn(paper);
        return office.wouldSupport(paper, voter);
    }

    public int paperOf(int voter) throws IndexOutOfBoundsException, NoSuchElementException {
        needVoter(voter);
        int paper = office.supportedBy(voter);
        if (paper == NONE) {
            throw new NoSuchElementException("no signature of the voter counts");
        }
        return paper;
    }

    public int gain(int paper, int other)
            throws IndexOutOfBoundsException, IllegalArgumentException, IllegalStateException {
        needPaper(paper);
        needPaper(other);
        if (paper == other) {
            throw new IllegalArgumentException("both are the same paper");
        }
        needOpen();
        needNotWithdrawn(paper);
        return office.freedBy(paper, other);
    }

    public int fewestWithdrawals(int paper)
            throws IndexOutOfBoundsException, IllegalStateException, NoSuchElementException {
        needPaper(paper);
        needOpen();
        needNotWithdrawn(paper);
        int set = office.smallestSetFor(paper);
        if (set == NONE) {
            throw new NoSuchElementException("there is no such set");
        }
        return set;
    }

    public int signatures() {
        return office.signatureCount;
    }

    // ---- who stands

    public int reason(int paper) throws IndexOutOfBoundsException {
        needPaper(paper);
        return office.whyNotStanding(paper);
    }

    public int reasonByReplay(int paper) throws IndexOutOfBoundsException {
        needPaper(paper);
        replayed.restart();
        for (int k = 0; k < diary.size; k++) {
            replayed.happen(diary.kinds[k], diary.firsts[k], diary.seconds[k], diary.thirds[k]);
        }
        replayed.judge();
        return replayed.whyNotStanding(paper);
    }

    public int ballotSize(int area) throws IndexOutOfBoundsException {
        needArea(area);
        return office.countStanding(area);
    }

    // ---- ballots

    public char draw(int seed) throws IllegalStateException {
        if (office.calendar.isBeforeClose()) {
            throw new IllegalStateException("the office is open");
        }
        if (office.letters.drawn) {
            throw new IllegalStateException("the letters have been drawn");
        }
        happen(DRAW, seed, 0, 0);
        return office.letters.order[0];
    }

    public char letter(int place) throws IndexOutOfBoundsException, IllegalStateException {
        if (place < 0 || place >= LETTERS) {
            throw new IndexOutOfBoundsException("no such place");
        }
        needLetters();
        return office.letters.order[place];
    }

    public int ballot(int area, int precinct, int place)
            throws IndexOutOfBoundsException, IllegalArgumentException, IllegalStateException, NoSuchElementException {
        needArea(area);
        needPrecinct(precinct);
        needLetters();
        int size = office.countStanding(area);
        if (place < 0 || place >= size) {
            throw new NoSuchElementException("there is no such place on the ballot");
        }
        return office.paperAt(area, around(precinct + place, size));
    }

    public int placeOnBallot(int paper, int precinct)
            throws IndexOutOfBoundsException, IllegalArgumentException, IllegalStateException {
        needPaper(paper);
        needPrecinct(precinct);
        needLetters();
        needStanding(paper);
        return around(office.placeOnList(paper) - precinct, office.countStanding(office.papers[paper].area));
    }

    // ---- votes

    public int addVotes(int paper, int votes)
            throws IndexOutOfBoundsException, IllegalArgumentException, IllegalStateException {
        needPaper(paper);
        if (votes < 1 || votes > MOST_VOTES) {
            throw new IllegalArgumentException("the number of votes is out of range");
        }
        needStanding(paper);
        needCounting(office.papers[paper].area);
        happen(ADD_VOTES, paper, votes, 0);
        return office.papers[paper].votes;
    }

    public int finish(int area) throws IndexOutOfBoundsException, IllegalStateException {
        needArea(area);
        needCounting(area);
        happen(FINISH, area, 0, 0);
        return office.countStandingAndLost(area);
    }

    public int votes(int paper) throws IndexOutOfBoundsException {
        needPaper(paper);
        return office.papers[paper].votes;
    }

    public double share(int paper) throws IndexOutOfBoundsException, ArithmeticException {
        needPaper(paper);
        int all = office.votesIn(office.papers[paper].area);
        if (all == 0) {
            throw new ArithmeticException("the area has no votes");
        }
        return (double) office.papers[paper].votes / (double) all;
    }

    public int winner(int area) throws IndexOutOfBoundsException, IllegalStateException, NoSuchElementException {
        needArea(area);
        if (!office.roll.areas[area].finished) {
            throw new IllegalStateException("the counting is not finished");
        }
        int paper = office.mostVotedIn(area);
        if (paper == NONE) {
            throw new NoSuchElementException("no paper stands in the area");
        }
        return paper;
    }

    // ---- deposits

    public int deposit(int paper) throws IndexOutOfBoundsException {
        needPaper(paper);
        return office.stateOfDeposit(paper);
    }

    public int paid(int paper) throws IndexOutOfBoundsException {
        needPaper(paper);
        return office.papers[paper].paid;
    }

    public int sumHeld() {
        return office.sumOfDeposits(HELD);
    }

    public int sumLost() {
        return office.sumOfDeposits(LOST);
    }

    public float lostShare() throws ArithmeticException {
        int all = office.sumPaid();
        if (all == 0) {
            throw new ArithmeticException("nothing has been paid");
        }
        return (float) office.sumOfDeposits(LOST) / (float) all;
    }

    // ---- what the calls need

    private void needArea(int area) throws IndexOutOfBoundsException {
        if (area < 0 || area >= office.roll.areaCount) {
            throw new IndexOutOfBoundsException("no such area");
        }
    }

    private void needVoter(int voter) throws IndexOutOfBoundsException {
        if (voter < 0 || voter >= office.roll.voterCount) {
            throw new IndexOutOfBoundsException("no such voter");
        }
    }

    private void needPaper(int paper) throws IndexOutOfBoundsException {
        if (paper < 0 || paper >= office.paperCount) {
            throw new IndexOutOfBoundsException("no such paper");
        }
    }

    private void needName(char first, char second, char third, char fourth) throws IllegalArgumentException {
        if (!isSmallLetter(first) || !mayFollow(first, second) || !mayFollow(second, third)
                || !mayFollow(third, fourth)) {
            throw new IllegalArgumentException("the characters are not a surname");
        }
    }

    private void needPrecinct(int precinct) throws IllegalArgumentException {
        if (precinct < 0 || precinct > LAST_PRECINCT) {
            throw new IllegalArgumentException("the precinct is out of range");
        }
    }

    private void needOpen() throws IllegalStateException {
        if (!office.calendar.isBeforeClose()) {
            throw new IllegalStateException("the office is closed");
        }
    }

    private void needNotWithdrawn(int paper) throws IllegalStateException {
        if (office.isWithdrawn(paper)) {
            throw new IllegalStateException("the paper is withdrawn");
        }
    }

    private void needNotRejected(int paper) throws IllegalStateException {
        if (office.isRejected(paper)) {
            throw new IllegalStateException("the paper is rejected");
        }
    }

    private void needStanding(int paper) throws IllegalStateException {
        if (office.whyNotStanding(paper) != STANDS) {
            throw new IllegalStateException("the paper does not stand");
        }
    }

    private void needLetters() throws IllegalStateException {
        if (!office.letters.drawn) {
            throw new IllegalStateException("the letters have not been drawn");
        }
    }

    private void needCounting(int area) throws IllegalStateException {
        if (!office.calendar.isPollingOpen()) {
            throw new IllegalStateException("the polling day has not come");
        }
        if (office.roll.areas[area].finished) {
            throw new IllegalStateException("the counting is finished");
        }
    }

    private void happen(int kind, int first, int second, int third) {
        diary.write(kind, first, second, third);
        office.happen(kind, first, second, third);
        office.judge();
    }

    // ---- surnames and places

    private static boolean isSmallLetter(char sign) {
        return sign >= 'a' && sign <= 'z';
    }

    private static boolean mayFollow(char before, char sign) {
        return sign == BLANK || before != BLANK && isSmallLetter(sign);
    }

    /** Packs a surname into one number, eight bits a character, so that an event can carry it. */
    private static int nameOf(char first, char second, char third, char fourth) {
        return first << 24 | second << 16 | third << 8 | fourth;
    }

    private static char characterOf(int name, int place) {
        return (char) (name >> 8 * (NAME_LENGTH - 1 - place) & 0xff);
    }

    private static int around(int place, int size) {
        return size > 0 ? Math.floorMod(place, size) : 0;
    }

    /** The present day, and the three days that are fixed. */
    private static final class Calendar {
        int day;
        int closing;
        int changes;
        int polling;

        void restart() {
            day = 0;
            fix(FIRST_CLOSING_DAY, FIRST_CHANGES_DAY, FIRST_POLLING_DAY);
        }

        void fix(int newClosing, int newChanges, int newPolling) {
            closing = newClosing;
            changes = newChanges;
            polling = newPolling;
        }

        boolean isBeforeClose() {
            return day <= closing;
        }

        boolean allowsChanges() {
            return day <= changes;
        }

        boolean isPollingOpen() {
            return day >= polling;
        }
    }

    /** What a paper needs in an area, and whether the votes are counted there. */
    private static final class Area {
        int needed;
        int deposit;
        boolean finished;

        void begin(int signaturesNeeded, int depositNeeded) {
            needed = signaturesNeeded;
            deposit = depositNeeded;
            finished = false;
        }
    }

    /** A voter, with the set of the papers for which there is a local signature: bit k stands for the paper k. */
    private static final class Voter {
        int area;
        boolean onRoll;
        int signed;

        void begin(int firstArea) {
            area = firstArea;
            onRoll = true;
            signed = 0;
        }
    }

    /** The areas and the voters. */
    private static final class Roll {
        final Area[] areas = new Area[MOST_AREAS];
        final Voter[] voters = new Voter[MOST_VOTERS];
        int areaCount;
        int voterCount;

        Roll() {
            for (int k = 0; k < MOST_AREAS; k++) {
                areas[k] = new Area();
            }
            for (int k = 0; k < MOST_VOTERS; k++) {
                voters[k] = new Voter();
            }
        }

        void restart() {
            areaCount = 0;
            voterCount = 0;
        }

        void beginArea(int needed, int deposit) {
            areas[areaCount].begin(needed, deposit);
            areaCount++;
        }

        void beginVoter(int area) {
            voters[voterCount].begin(area);
            voterCount++;
        }

        int countOnRoll() {
            int count = 0;
            for (int k = 0; k < voterCount; k++) {
                if (voters[k].onRoll) {
                    count++;
                }
            }
            return count;
        }
    }

    /** A paper; how many of its signatures count and the verdict on it are those of the last judgement. */
    private static final class Paper {
        int area;
        int party;
        int name;
        int paid;
        int votes;
        int replacements;
        boolean dead;
        boolean withdrawnLate;
        int counting;
        int verdict;

        void begin(int newArea, int newParty, int newName) {
            area = newArea;
            party = newParty;
            name = newName;
            paid = 0;
            votes = 0;
            replacements = 0;
            dead = false;
            withdrawnLate = false;
            counting = 0;
            verdict = STANDS;
        }

        void renew(int newName) {
            name = newName;
            replacements++;
            dead = false;
        }
    }

    /**
     * A signature, with the set of the papers for which its voter had a local signature before; its result is that of
     * the last judgement.
     */
    private static final class Signature {
        int paper;
        int voter;
        boolean local;
        int earlier;
        int result;

        void begin(int newPaper, int newVoter, boolean isLocal, int signedEarlier) {
            paper = newPaper;
            voter = newVoter;
            local = isLocal;
            earlier = signedEarlier;
            result = COUNTS;
        }
    }

    /** The order of the letters in the ballots, and the place of each letter in it. */
    private static final class Letters {
        final char[] order = new char[LETTERS];
        final int[] places = new int[LETTERS];
        boolean drawn;

        void restart() {
            drawn = false;
        }

        void shuffle(int seed) {
            for (int k = 0; k < LETTERS; k++) {
                order[k] = (char) ('a' + k);
            }
            int state = seed;
            for (int k = LETTERS - 1; k >= 1; k--) {
                state = state * 1103515245 + 12345;
                exchange((state >>> 8) % (k + 1), k);
            }
            for (int k = 0; k < LETTERS; k++) {
                places[order[k] - 'a'] = k;
            }
            drawn = true;
        }

        private void exchange(int one, int other) {
            char kept = order[one];
            order[one] = order[other];
            order[other] = kept;
        }

        /** A number that is lower for the surname that comes first in the ballots. */
        int rankOf(int name) {
            int rank = 0;
            for (int k = 0; k < NAME_LENGTH; k++) {
                char sign = characterOf(name, k);
                rank = rank * (LETTERS + 1) + (isSmallLetter(sign) ? places[sign - 'a'] + 1 : 0);
            }
            return rank;
        }
    }

    /** All events in the order in which they happened. */
    private static final class Diary {
        final int[] kinds = new int[MOST_EVENTS];
        final int[] firsts = new int[MOST_EVENTS];
        final int[] seconds = new int[MOST_EVENTS];
        final int[] thirds = new int[MOST_EVENTS];
        int size;

        void write(int kind, int first, int second, int third) {
            if (size < MOST_EVENTS) {
                kinds[size] = kind;
                firsts[size] = first;
                seconds[size] = second;
                thirds[size] = third;
                size++;
            }
        }
    }

    /** The state of the office. Its rows are made once and used again, so that neither events nor replays make any. */
    private static final class Office {
        final Calendar calendar = new Calendar();
        final Roll roll = new Roll();
        final Letters letters = new Letters();
        final Paper[] papers = new Paper[MOST_PAPERS];
        final Signature[] signatures = new Signature[MOST_SIGNATURES];
        // For the questions about withdrawals: the sets of papers that block the signatures of one paper.
        private final int[] blockers = new int[MOST_SIGNATURES];
        int paperCount;
        int signatureCount;
        private int withdrawn;

        Office() {
            for (int k = 0; k < MOST_PAPERS; k++) {
                papers[k] = new Paper();
            }
            for (int k = 0; k < MOST_SIGNATURES; k++) {
                signatures[k] = new Signature();
            }
            restart();
        }

        void restart() {
            calendar.restart();
            roll.restart();
            letters.restart();
            paperCount = 0;
            signatureCount = 0;
            withdrawn = 0;
        }

        // ---- events

        void happen(int kind, int first, int second, int third) {
            switch (kind) {
                case SET_CALENDAR:
                    calendar.fix(first, second, third);
                    break;
                case PASS:
                    // Nothing else happens in these days, so if the close is among them, this judgement is its own.
                    judge();
                    calendar.day += first;
                    break;
                case ADD_AREA:
                    roll.beginArea(first, second);
                    break;
                case ADD_VOTER:
                    roll.beginVoter(first);
                    break;
                case MOVE:
                    roll.voters[first].area = second;
                    break;
                case STRIKE:
                    roll.voters[first].onRoll = false;
                    break;
                case RESTORE:
                    roll.voters[first].onRoll = true;
                    break;
                case DRAW:
                    letters.shuffle(first);
                    break;
                case FINISH:
                    roll.areas[first].finished = true;
                    break;
                default:
                    happenToPaper(kind, first, second, third);
                    break;
            }
        }

        private void happenToPaper(int kind, int first, int second, int third) {
            switch (kind) {
                case FILE:
                    beginPaper(first, second, third);
                    break;
                case SIGN:
                    beginSignature(first, second);
                    break;
                case PAY:
                    papers[first].paid += second;
                    break;
                case WITHDRAW:
                    withdrawn |= 1 << first;
                    papers[first].withdrawnLate = !calendar.isBeforeClose();
                    break;
                case DIE:
                    papers[first].dead = true;
                    break;
                case REPLACE:
                    papers[first].renew(second);
                    break;
                case ADD_VOTES:
                    papers[first].votes += second;
                    break;
                default:
                    break;
            }
        }

        private void beginPaper(int area, int party, int name) {
            papers[paperCount].begin(area, party, name);
            paperCount++;
        }

        private void beginSignature(int paper, int voter) {
            Voter signer = roll.voters[voter];
            boolean local = signer.onRoll && signer.area == papers[paper].area;
            signatures[signatureCount].begin(paper, voter, local, signer.signed);
            signatureCount++;
            if (local) {
                signer.signed |= 1 << paper;
            }
        }

        // ---- judgement

        /** Judges signatures and papers anew while the office is open: what was judged last at the close is final. */
        void judge() {
            if (calendar.isBeforeClose()) {
                judgeSignatures();
                // A double depends on the verdicts on lower papers, so the order matters.
                for (int k = 0; k < paperCount; k++) {
                    papers[k].verdict = verdictOn(k);
                }
            }
        }

        private void judgeSignatures() {
            for (int k = 0; k < paperCount; k++) {
                papers[k].counting = 0;
            }
            for (int k = 0; k < signatureCount; k++) {
                Signature signature = signatures[k];
                signature.result = resultOf(signature);
                if (signature.result == COUNTS) {
                    papers[signature.paper].counting++;
                }
            }
        }

        private int resultOf(Signature signature) {
            if (!signature.local) {
                return NOT_LOCAL;
            }
            if (!roll.voters[signature.voter].onRoll) {
                return STRUCK_OFF;
            }
            if (isWithdrawn(signature.paper)) {
                return PAPER_WITHDRAWN;
            }
            return (signature.earlier & ~withdrawn) != 0 ? SIGNED_EARLIER : COUNTS;
        }

        /** The first reason why a paper is not acceptable, or STANDS; the candidate may be alive or dead. */
        private int verdictOn(int number) {
            Paper paper = papers[number];
            Area area = roll.areas[paper.area];
            if (isWithdrawn(number)) {
                return WITHDRAWN;
            }
            if (paper.paid < area.deposit) {
                return DEPOSIT_SHORT;
            }
            if (paper.counting < area.needed) {
                return TOO_FEW_SIGNATURES;
            }
            return isDouble(number) ? DOUBLE : STANDS;
        }

        private boolean isDouble(int number) {
            Paper paper = papers[number];
            if (paper.party == INDEPENDENT) {
                return false;
            }
            for (int k = 0; k < number; k++) {
                Paper lower = papers[k];
                if (lower.party == paper.party && lower.area == paper.area && lower.verdict == STANDS) {
                    return true;
                }
            }
            return false;
        }

        // ---- papers

        boolean isWithdrawn(int paper) {
            return (withdrawn & 1 << paper) != 0;
        }

        boolean isRejected(int paper) {
            int verdict = papers[paper].verdict;
            return !calendar.isBeforeClose() && verdict != STANDS && verdict != WITHDRAWN;
        }

        boolean canReplace(int number) {
            Paper paper = papers[number];
            return paper.party != INDEPENDENT && !isWithdrawn(number) && !isRejected(number)
                    && paper.replacements < MOST_REPLACEMENTS && calendar.allowsChanges()
                    && (calendar.isBeforeClose() || paper.dead);
        }

        int whyNotStanding(int number) {
            Paper paper = papers[number];
            if (isWithdrawn(number)) {
                return WITHDRAWN;
            }
            if (paper.verdict != STANDS) {
                return paper.verdict;
            }
            return paper.dead ? DEAD : STANDS;
        }

        // ---- signatures

        int countOfOthers(int paper) {
            int count = 0;
            for (int k = 0; k < paperCount; k++) {
                if (k != paper) {
                    count += papers[k].counting;
                }
            }
            return count;
        }

        boolean wouldSupport(int paper, int voter) {
            Voter signer = roll.voters[voter];
            return signer.onRoll && signer.area == papers[paper].area && (signer.signed & ~withdrawn) == 0;
        }

        int supportedBy(int voter) {
            for (int k = 0; k < signatureCount; k++) {
                if (signatures[k].voter == voter && signatures[k].result == COUNTS) {
                    return signatures[k].paper;
                }
            }
            return NONE;
        }

        int freedBy(int paper, int other) {
            int size = gatherBlockers(paper);
            return countWithout(size, 1 << other) - countWithout(size, 0);
        }

        /** The smallest set of papers whose withdrawal gives a paper enough signatures, the lowest of them, or NONE. */
        int smallestSetFor(int paper) {
            int needed = roll.areas[papers[paper].area].needed;
            int size = gatherBlockers(paper);
            int useful = allBlockers(size);
            int best = NONE;
            int fewest = MOST_PAPERS + 1;
            for (int set = 0; set <= useful; set++) {
                if ((set & ~useful) == 0 && Integer.bitCount(set) < fewest && countWithout(size, set) >= needed) {
                    best = set;
                    fewest = Integer.bitCount(set);
                }
            }
            return best;
        }

        /**
         * Collects the sets of papers that block the signatures of a paper, and answers their number. A signature that
         * no withdrawal of other papers can make count, is left out: also one that follows another one for the same
         * paper.
         */
        private int gatherBlockers(int paper) {
            int size = 0;
            for (int k = 0; k < signatureCount; k++) {
                Signature signature = signatures[k];
                if (signature.paper == paper && signature.local && roll.voters[signature.voter].onRoll
                        && (signature.earlier & 1 << paper) == 0) {
                    blockers[size] = signature.earlier & ~withdrawn;
                    size++;
                }
            }
            return size;
        }

        private int allBlockers(int size) {
            int all = 0;
            for (int k = 0; k < size; k++) {
                all |= blockers[k];
            }
            return all;
        }

        private int countWithout(int size, int set) {
            int count = 0;
            for (int k = 0; k < size; k++) {
                if ((blockers[k] & ~set) == 0) {
                    count++;
                }
            }
            return count;
        }

        // ---- ballots

        private boolean standsIn(int paper, int area) {
            return papers[paper].area == area && whyNotStanding(paper) == STANDS;
        }

        int countStanding(int area) {
            int count = 0;
            for (int k = 0; k < paperCount; k++) {
                if (standsIn(k, area)) {
                    count++;
                }
            }
            return count;
        }

        int paperAt(int area, int place) {
            for (int k = 0; k < paperCount; k++) {
                if (standsIn(k, area) && placeOnList(k) == place) {
                    return k;
                }
            }
            return NONE;
        }

        int placeOnList(int paper) {
            int place = 0;
            for (int k = 0; k < paperCount; k++) {
                if (standsIn(k, papers[paper].area) && comesBefore(k, paper)) {
                    place++;
                }
            }
            return place;
        }

        private boolean comesBefore(int one, int other) {
            int rank = letters.rankOf(papers[one].name);
            int otherRank = letters.rankOf(papers[other].name);
            return rank < otherRank || rank == otherRank && one < other;
        }

        // ---- votes

        int votesIn(int area) {
            int all = 0;
            for (int k = 0; k < paperCount; k++) {
                if (papers[k].area == area) {
                    all += papers[k].votes;
                }
            }
            return all;
        }

        int mostVotedIn(int area) {
            int best = NONE;
            for (int k = 0; k < paperCount; k++) {
                if (standsIn(k, area) && (best == NONE || papers[k].votes > papers[best].votes)) {
                    best = k;
                }
            }
            return best;
        }

        int countStandingAndLost(int area) {
            int count = 0;
            for (int k = 0; k < paperCount; k++) {
                if (standsIn(k, area) && stateOfDeposit(k) == LOST) {
                    count++;
                }
            }
            return count;
        }

        // ---- deposits

        int stateOfDeposit(int number) {
            Paper paper = papers[number];
            if (isWithdrawn(number)) {
                return paper.withdrawnLate ? LOST : RETURNED;
            }
            if (calendar.isBeforeClose()) {
                return HELD;
            }
            if (isRejected(number)) {
                return RETURNED;
            }
            if (paper.dead) {
                return canReplace(number) ? HELD : RETURNED;
            }
            if (!roll.areas[paper.area].finished) {
                return HELD;
            }
            return 20 * paper.votes < votesIn(paper.area) ? LOST : RETURNED;
        }

        int sumOfDeposits(int state) {
            int sum = 0;
            for (int k = 0; k < paperCount; k++) {
                if (stateOfDeposit(k) == state) {
                    sum += papers[k].paid;
                }
            }
            return sum;
        }

        int sumPaid() {
            int sum = 0;
            for (int k = 0; k < paperCount; k++) {
                sum += papers[k].paid;
            }
            return sum;
        }
    }
}
