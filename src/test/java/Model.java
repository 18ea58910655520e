import java.util.ArrayList;
import java.util.List;
import java.util.NoSuchElementException;

/**
 * The document's words once more, as directly as they can be written and without any thought of speed: ModelTest
 * compares it with Nominator. It keeps what was said at the close apart, and works all else out at each question.
 */
final class Model {
    private static final class Paper {
        final int area;
        final int party;
        String name;
        int paid;
        int votes;
        int replaced;
        boolean dead;
        boolean withdrawn;
        boolean withdrawnWhileOpen;
        boolean accepted;
        int reasonAtClose;

        Paper(int area, int party, String name) {
            this.area = area;
            this.party = party;
            this.name = name;
        }
    }

    private static final class Signature {
        final int paper;
        final int voter;
        final boolean local;
        int resultAtClose;

        Signature(int paper, int voter, boolean local) {
            this.paper = paper;
            this.voter = voter;
            this.local = local;
        }
    }

    private int day = 0;
    private int closing = 20;
    private int changes = 25;
    private int polling = 40;
    private final List<int[]> needs = new ArrayList<>();
    private final List<Boolean> finished = new ArrayList<>();
    private final List<Integer> areaOfVoter = new ArrayList<>();
    private final List<Boolean> onRoll = new ArrayList<>();
    private final List<Paper> papers = new ArrayList<>();
    private final List<Signature> signatures = new ArrayList<>();
    private String order = "";

    /** Makes the call with this name; characters are given as their numbers. */
    Object call(String name, int[] a) {
        switch (name) {
            case "setCalendar": return setCalendar(a[0], a[1], a[2]);
            case "pass": return pass(a[0]);
            case "day": return day;
            case "isOpen": return open();
            case "addArea": return addArea(a[0], a[1]);
            case "addVoter": return addVoter(a[0]);
            case "move": return move(a[0], a[1]);
            case "strike": return setOnRoll(a[0], false);
            case "restore": return setOnRoll(a[0], true);
            case "areaOf": there(a[0], areaOfVoter); return areaOfVoter.get(a[0]);
            case "isOnRoll": there(a[0], areaOfVoter); return onRoll.get(a[0]);
            case "file": return file(a[0], a[1], text(a, 2));
            case "sign": return sign(a[0], a[1]);
            case "pay": return pay(a[0], a[1]);
            case "withdraw": return withdraw(a[0]);
            case "die": return die(a[0]);
            case "replace": return replace(a[0], text(a, 1));
            case "isReplaceable": return replaceable(paper(a[0]));
            case "surname": return surname(paper(a[0]), a[1]);
            case "papers": return papers.size();
            case "signatures": return signatures.size();
            case "draw": return draw(a[0]);
            case "letter": return letter(a[0]);
            case "sumHeld": return sum(0);
            case "sumLost": return sum(2);
            case "lostShare": return lostShare();
            default: return ask(name, a);
        }
    }

    private Object ask(String name, int[] a) {
        switch (name) {
            case "counted": paper(a[0]); return counted(a[0], null);
            case "signatureResult": there(a[0], signatures); return result(a[0], null);
            case "wouldCount": return wouldCount(a[0], a[1]);
            case "paperOf": return paperOf(a[0]);
            case "gain": return gain(a[0], a[1]);
            case "fewestWithdrawals": return fewestWithdrawals(a[0]);
            case "reason": return reason(paper(a[0]));
            case "reasonByReplay": return reason(paper(a[0]));
            case "ballotSize": there(a[0], needs); return list(a[0]).size();
            case "ballot": return ballot(a[0], a[1], a[2]);
            case "placeOnBallot": return placeOnBallot(a[0], a[1]);
            case "addVotes": return addVotes(a[0], a[1]);
            case "finish": return finish(a[0]);
            case "votes": return paper(a[0]).votes;
            case "share": return share(paper(a[0]));
            case "winner": return winner(a[0]);
            case "deposit": return deposit(paper(a[0]));
            case "paid": return paper(a[0]).paid;
            default: throw new AssertionError(name);
        }
    }

    // ---- conditions

    private static void index(int number, int size) {
        if (number < 0 || number >= size) {
            throw new IndexOutOfBoundsException("");
        }
    }

    private static void there(int number, List<?> all) {
        index(number, all.size());
    }

    private static void argument(boolean fits) {
        if (!fits) {
            throw new IllegalArgumentException("");
        }
    }

    private static void state(boolean fits) {
        if (!fits) {
            throw new IllegalStateException("");
        }
    }

    private Paper paper(int number) {
        there(number, papers);
        return papers.get(number);
    }

    private boolean open() {
        return day <= closing;
    }

    private static boolean within(int number, int low, int high) {
        return low <= number && number <= high;
    }

    private static String text(int[] a, int from) {
        StringBuilder text = new StringBuilder();
        for (int k = from; k < from + 4; k++) {
            text.append((char) a[k]);
        }
        return text.toString();
    }

    private static boolean isSurname(String name) {
        return name.matches("[a-z]{1,4} *") && name.length() == 4;
    }

    // ---- calendar and roll

    private int setCalendar(int newClosing, int newChanges, int newPolling) {
        argument(newClosing >= 0 && newChanges >= newClosing && newPolling > newChanges && newPolling <= 60);
        state(day == 0 && papers.isEmpty());
        int before = polling;
        closing = newClosing;
        changes = newChanges;
        polling = newPolling;
        return before;
    }

    private int pass(int days) {
        argument(within(days, 1, 30));
        state(day + days <= 99);
        for (int k = 0; k < days; k++) {
            if (day == closing) {
                close();
            }
            day++;
        }
        return day;
    }

    private void close() {
        for (int k = 0; k < signatures.size(); k++) {
            signatures.get(k).resultAtClose = result(k, null);
        }
        for (int k = 0; k < papers.size(); k++) {
            papers.get(k).accepted = acceptable(k);
            papers.get(k).reasonAtClose = openReason(k);
        }
    }

    private int addArea(int needed, int deposit) {
        argument(within(needed, 1, 10) && within(deposit, 0, 1000));
        state(needs.size() < 5);
        needs.add(new int[] {needed, deposit});
        finished.add(false);
        return needs.size() - 1;
    }

    private int addVoter(int area) {
        there(area, needs);
        state(areaOfVoter.size() < 40);
        areaOfVoter.add(area);
        onRoll.add(true);
        return areaOfVoter.size() - 1;
    }

    private int move(int voter, int area) {
        there(voter, areaOfVoter);
        there(area, needs);
        if (areaOfVoter.get(voter) == area) {
            throw new UnsupportedOperationException("");
        }
        return areaOfVoter.set(voter, area);
    }

    private int setOnRoll(int voter, boolean to) {
        there(voter, areaOfVoter);
        state(onRoll.get(voter) != to);
        onRoll.set(voter, to);
        int count = 0;
        for (boolean on : onRoll) {
            count += on ? 1 : 0;
        }
        return count;
    }

    // ---- papers

    private int file(int area, int party, String name) {
        there(area, needs);
        argument(within(party, -1, 7) && isSurname(name));
        state(open() && papers.size() < 12);
        papers.add(new Paper(area, party, name));
        return papers.size() - 1;
    }

    int areaCount() {
        return needs.size();
    }

    int voterCount() {
        return areaOfVoter.size();
    }

    boolean local(int paper, int voter) {
        return onRoll.get(voter) && areaOfVoter.get(voter) == papers.get(paper).area;
    }

    private int sign(int paper, int voter) {
        paper(paper);
        there(voter, areaOfVoter);
        state(open() && !papers.get(paper).withdrawn && signatures.size() < 150);
        signatures.add(new Signature(paper, voter, local(paper, voter)));
        return signatures.size() - 1;
    }

    private int pay(int number, int amount) {
        Paper paper = paper(number);
        argument(within(amount, 1, 1000));
        state(open() && !paper.withdrawn);
        paper.paid += amount;
        return paper.paid;
    }

    private boolean rejected(Paper paper) {
        return !open() && !paper.accepted && !(paper.withdrawn && paper.withdrawnWhileOpen);
    }

    private int withdraw(int number) {
        Paper paper = paper(number);
        state(!paper.withdrawn && !rejected(paper) && day <= changes);
        List<Integer> before = countingOfOthers(number);
        paper.withdrawn = true;
        paper.withdrawnWhileOpen = open();
        List<Integer> after = countingOfOthers(number);
        after.removeAll(before);
        return after.size();
    }

    private List<Integer> countingOfOthers(int paper) {
        List<Integer> counting = new ArrayList<>();
        for (int k = 0; k < signatures.size(); k++) {
            if (signatures.get(k).paper != paper && result(k, null) == 0) {
                counting.add(k);
            }
        }
        return counting;
    }

    private boolean die(int number) {
        Paper paper = paper(number);
        state(!paper.withdrawn && !rejected(paper) && !paper.dead && day < polling);
        paper.dead = true;
        return replaceable(paper);
    }

    private int replace(int number, String name) {
        Paper paper = paper(number);
        argument(isSurname(name));
        state(replaceable(paper));
        paper.name = name;
        paper.dead = false;
        paper.replaced++;
        return paper.replaced;
    }

    private boolean replaceable(Paper paper) {
        return paper.party >= 0 && !paper.withdrawn && !rejected(paper) && paper.replaced < 2 && day <= changes
                && (open() || paper.dead);
    }

    private static char surname(Paper paper, int place) {
        index(place, 4);
        return paper.name.charAt(place);
    }

    // ---- signatures

    private boolean gone(int paper, List<Integer> withdrawnToo) {
        return papers.get(paper).withdrawn || withdrawnToo != null && withdrawnToo.contains(paper);
    }

    private int result(int number, List<Integer> withdrawnToo) {
        Signature signature = signatures.get(number);
        if (!open()) {
            return signature.resultAtClose;
        }
        if (!signature.local) {
            return 1;
        }
        if (!onRoll.get(signature.voter)) {
            return 2;
        }
        if (gone(signature.paper, withdrawnToo)) {
            return 3;
        }
        for (int k = 0; k < number; k++) {
            Signature earlier = signatures.get(k);
            if (earlier.local && earlier.voter == signature.voter && !gone(earlier.paper, withdrawnToo)) {
                return 4;
            }
        }
        return 0;
    }

    private int counted(int paper, List<Integer> withdrawnToo) {
        int count = 0;
        for (int k = 0; k < signatures.size(); k++) {
            if (signatures.get(k).paper == paper && result(k, withdrawnToo) == 0) {
                count++;
            }
        }
        return count;
    }

    private boolean wouldCount(int paper, int voter) {
        paper(paper);
        there(voter, areaOfVoter);
        state(open() && !papers.get(paper).withdrawn);
        signatures.add(new Signature(paper, voter, local(paper, voter)));
        boolean counts = result(signatures.size() - 1, null) == 0;
        signatures.remove(signatures.size() - 1);
        return counts;
    }

    private int paperOf(int voter) {
        there(voter, areaOfVoter);
        for (int k = 0; k < signatures.size(); k++) {
            if (signatures.get(k).voter == voter && result(k, null) == 0) {
                return signatures.get(k).paper;
            }
        }
        throw new NoSuchElementException("");
    }

    private int gain(int paper, int other) {
        paper(paper);
        paper(other);
        argument(paper != other);
        state(open() && !papers.get(paper).withdrawn);
        return counted(paper, List.of(other)) - counted(paper, null);
    }

    private int fewestWithdrawals(int paper) {
        paper(paper);
        state(open() && !papers.get(paper).withdrawn);
        for (int size = 0; size < papers.size(); size++) {
            for (int set = 0; set < 1 << papers.size(); set++) {
                if (Integer.bitCount(set) == size && (set >> paper & 1) == 0 && suffices(paper, set)) {
                    return set;
                }
            }
        }
        throw new NoSuchElementException("");
    }

    private boolean suffices(int paper, int set) {
        List<Integer> members = new ArrayList<>();
        for (int k = 0; k < papers.size(); k++) {
            if ((set >> k & 1) == 1) {
                members.add(k);
            }
        }
        return counted(paper, members) >= needs.get(papers.get(paper).area)[0];
    }

    // ---- who stands

    private boolean acceptable(int number) {
        Paper paper = papers.get(number);
        return !paper.withdrawn && paper.paid >= needs.get(paper.area)[1]
                && counted(number, null) >= needs.get(paper.area)[0] && !isDouble(number);
    }

    private boolean isDouble(int number) {
        Paper paper = papers.get(number);
        for (int k = 0; k < number && paper.party >= 0; k++) {
            Paper lower = papers.get(k);
            if (lower.party == paper.party && lower.area == paper.area && acceptable(k)) {
                return true;
            }
        }
        return false;
    }

    private int openReason(int number) {
        Paper paper = papers.get(number);
        int[] need = needs.get(paper.area);
        return paper.withdrawn ? 1 : paper.paid < need[1] ? 2 : counted(number, null) < need[0] ? 3
                : isDouble(number) ? 4 : paper.dead ? 5 : 0;
    }

    private int reason(Paper paper) {
        if (open()) {
            return openReason(papers.indexOf(paper));
        }
        return paper.withdrawn ? 1 : rejected(paper) ? paper.reasonAtClose : paper.dead ? 5 : 0;
    }

    private boolean stands(Paper paper) {
        return open() ? acceptable(papers.indexOf(paper)) && !paper.dead
                : paper.accepted && !paper.withdrawn && !paper.dead;
    }

    // ---- ballots

    private char draw(int seed) {
        state(!open() && order.isEmpty());
        char[] letters = "abcdefghijklmnopqrstuvwxyz".toCharArray();
        int state = seed;
        for (int k = 25; k >= 1; k--) {
            state = state * 1103515245 + 12345;
            int j = (state >>> 8) % (k + 1);
            char kept = letters[j];
            letters[j] = letters[k];
            letters[k] = kept;
        }
        order = new String(letters);
        return letters[0];
    }

    private char letter(int place) {
        index(place, 26);
        state(!order.isEmpty());
        return order.charAt(place);
    }

    private List<Integer> list(int area) {
        List<Integer> list = new ArrayList<>();
        for (int k = 0; k < papers.size(); k++) {
            if (papers.get(k).area == area && stands(papers.get(k))) {
                list.add(k);
            }
        }
        list.sort((one, other) -> compareNames(papers.get(one).name, papers.get(other).name));
        return list;
    }

    /** The sort is stable, so papers with the same surname stay in the order of their numbers. */
    private int compareNames(String one, String other) {
        for (int k = 0; k < 4; k++) {
            int difference = order.indexOf(one.charAt(k)) - order.indexOf(other.charAt(k));
            if (difference != 0) {
                return difference;
            }
        }
        return 0;
    }

    private List<Integer> ballotOf(int area, int precinct) {
        List<Integer> list = list(area);
        for (int k = 0; !list.isEmpty() && k < precinct % list.size(); k++) {
            list.add(list.remove(0));
        }
        return list;
    }

    private int ballot(int area, int precinct, int place) {
        there(area, needs);
        argument(within(precinct, 0, 999));
        state(!order.isEmpty());
        List<Integer> ballot = ballotOf(area, precinct);
        if (place < 0 || place >= ballot.size()) {
            throw new NoSuchElementException("");
        }
        return ballot.get(place);
    }

    private int placeOnBallot(int number, int precinct) {
        Paper paper = paper(number);
        argument(within(precinct, 0, 999));
        state(!order.isEmpty() && stands(paper));
        return ballotOf(paper.area, precinct).indexOf(number);
    }

    // ---- votes

    private int addVotes(int number, int votes) {
        Paper paper = paper(number);
        argument(within(votes, 1, 10000));
        state(day >= polling && stands(paper) && !finished.get(paper.area));
        paper.votes += votes;
        return paper.votes;
    }

    private int finish(int area) {
        there(area, needs);
        state(day >= polling && !finished.get(area));
        finished.set(area, true);
        int count = 0;
        for (int number : list(area)) {
            count += deposit(papers.get(number)) == 2 ? 1 : 0;
        }
        return count;
    }

    private int votesIn(int area) {
        int all = 0;
        for (Paper paper : papers) {
            all += paper.area == area ? paper.votes : 0;
        }
        return all;
    }

    private double share(Paper paper) {
        if (votesIn(paper.area) == 0) {
            throw new ArithmeticException("");
        }
        return (double) paper.votes / (double) votesIn(paper.area);
    }

    private int winner(int area) {
        there(area, needs);
        state(finished.get(area));
        int best = -1;
        for (int k = 0; k < papers.size(); k++) {
            boolean runs = papers.get(k).area == area && stands(papers.get(k));
            if (runs && (best < 0 || papers.get(k).votes > papers.get(best).votes)) {
                best = k;
            }
        }
        if (best < 0) {
            throw new NoSuchElementException("");
        }
        return best;
    }

    // ---- deposits

    private int deposit(Paper paper) {
        if (paper.withdrawn) {
            return paper.withdrawnWhileOpen ? 1 : 2;
        }
        if (open()) {
            return 0;
        }
        if (rejected(paper)) {
            return 1;
        }
        if (paper.dead) {
            return replaceable(paper) ? 0 : 1;
        }
        if (!finished.get(paper.area)) {
            return 0;
        }
        return 20 * paper.votes < votesIn(paper.area) ? 2 : 1;
    }

    private int sum(int state) {
        int sum = 0;
        for (Paper paper : papers) {
            sum += deposit(paper) == state ? paper.paid : 0;
        }
        return sum;
    }

    private float lostShare() {
        int all = 0;
        for (Paper paper : papers) {
            all += paper.paid;
        }
        if (all == 0) {
            throw new ArithmeticException("");
        }
        return (float) sum(2) / (float) all;
    }
}
