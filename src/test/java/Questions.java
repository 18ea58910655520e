import java.util.concurrent.Callable;

/** What can be asked of a small office, as one text: offices in the same state give the same text. */
final class Questions {
    // An object is used for at most 512 calls, and the recipe of a test needs some of them.
    private static final int MOST_CALLS = 400;
    private static final int MOST_AREAS = 5;
    private static final int MOST_VOTERS = 40;

    private final Nominator office;
    private final StringBuilder text = new StringBuilder();
    private int calls = 0;

    private Questions(Nominator office) {
        this.office = office;
    }

    static String answersOf(Nominator office) {
        Questions questions = new Questions(office);
        questions.askAll();
        if (questions.calls > MOST_CALLS) {
            Check.wrong("the office of a test is too large: " + questions.calls + " calls");
        }
        return questions.text.toString();
    }

    private void askAll() {
        ask(office::day);
        ask(office::isOpen);
        ask(office::papers);
        ask(office::signatures);
        ask(office::sumHeld);
        ask(office::sumLost);
        ask(office::lostShare);
        ask(() -> office.letter(0));
        ask(() -> office.letter(25));
        for (int k = 0; k < office.signatures(); k++) {
            int signature = k;
            ask(() -> office.signatureResult(signature));
        }
        askAreas();
        askVoters();
        for (int k = 0; k < office.papers(); k++) {
            askPaper(k);
        }
    }

    private void askAreas() {
        for (int k = 0; k < MOST_AREAS && isThere(askArea(k)); k++) {
            int area = k;
            ask(() -> office.winner(area));
            for (int n = 0; n < office.papers(); n++) {
                int place = n;
                ask(() -> office.ballot(area, 0, place));
            }
        }
    }

    private Object askArea(int area) {
        return ask(() -> office.ballotSize(area));
    }

    private void askVoters() {
        for (int k = 0; k < MOST_VOTERS && isThere(askVoter(k)); k++) {
            int voter = k;
            ask(() -> office.isOnRoll(voter));
            ask(() -> office.paperOf(voter));
            for (int n = 0; n < office.papers(); n++) {
                int paper = n;
                ask(() -> office.wouldCount(paper, voter));
            }
        }
    }

    private Object askVoter(int voter) {
        return ask(() -> office.areaOf(voter));
    }

    private void askPaper(int paper) {
        for (int k = 0; k < 4; k++) {
            int place = k;
            ask(() -> office.surname(paper, place));
        }
        ask(() -> office.isReplaceable(paper));
        ask(() -> office.counted(paper));
        ask(() -> office.reason(paper));
        ask(() -> office.reasonByReplay(paper));
        ask(() -> office.votes(paper));
        ask(() -> office.share(paper));
        ask(() -> office.deposit(paper));
        ask(() -> office.paid(paper));
        ask(() -> office.placeOnBallot(paper, 0));
        ask(() -> office.fewestWithdrawals(paper));
        for (int k = 0; k < office.papers(); k++) {
            int other = k;
            ask(() -> office.gain(paper, other));
        }
    }

    private Object ask(Callable<?> question) {
        calls++;
        Object answer = Check.outcomeOf(question);
        text.append(answer).append(' ');
        return answer;
    }

    private static boolean isThere(Object answer) {
        return !"IndexOutOfBoundsException".equals(answer);
    }
}
