import java.util.ArrayList;
import java.util.List;
import java.util.function.Function;
import java.util.function.IntFunction;
import java.util.function.Supplier;

/** What can be asked of an office, as one text: offices in the same state give the same text. */
final class Questions {
    // An object is used for at most 512 calls, of which a recipe needs 250 at the most: so not all is asked of one.
    private static final int CALLS_OF_ONE_OFFICE = 250;
    private static final int MOST_AREAS = 5;
    private static final int MOST_VOTERS = 40;

    private final List<Function<Nominator, Object>> all = new ArrayList<>();

    private Questions(Nominator office) {
        int areas = sizeUpTo(MOST_AREAS, office::ballotSize);
        int voters = sizeUpTo(MOST_VOTERS, office::areaOf);
        int papers = office.papers();
        addSingleOnes(office.signatures());
        for (int k = 0; k <= areas; k++) {
            addArea(k, papers);
        }
        for (int k = 0; k <= voters; k++) {
            addVoter(k, papers);
        }
        for (int k = 0; k <= papers; k++) {
            addPaper(k, papers);
        }
    }

    /** All questions that have a meaning in this office. */
    static List<Function<Nominator, Object>> of(Nominator office) {
        return new Questions(office).all;
    }

    /** The answers of offices that the recipe makes. */
    static String answersOf(Supplier<Nominator> recipe) {
        StringBuilder text = new StringBuilder();
        Nominator office = recipe.get();
        int calls = 0;
        for (Function<Nominator, Object> question : of(recipe.get())) {
            if (calls == CALLS_OF_ONE_OFFICE) {
                office = recipe.get();
                calls = 0;
            }
            Nominator asked = office;
            text.append(Check.outcomeOf(() -> question.apply(asked))).append(' ');
            calls++;
        }
        return text.toString();
    }

    private static int sizeUpTo(int most, IntFunction<Object> question) {
        for (int k = 0; k < most; k++) {
            int number = k;
            if (Check.outcomeOf(() -> question.apply(number)).equals("IndexOutOfBoundsException")) {
                return k;
            }
        }
        return most;
    }

    private void addSingleOnes(int signatures) {
        all.add(o -> o.day());
        all.add(o -> o.isOpen());
        all.add(o -> o.papers());
        all.add(o -> o.signatures());
        all.add(o -> o.sumHeld());
        all.add(o -> o.sumLost());
        all.add(o -> o.lostShare());
        all.add(o -> o.letter(0));
        all.add(o -> o.letter(25));
        for (int k = 0; k <= signatures; k++) {
            int signature = k;
            all.add(o -> o.signatureResult(signature));
        }
    }

    private void addArea(int area, int papers) {
        all.add(o -> o.ballotSize(area));
        all.add(o -> o.winner(area));
        for (int k = 0; k < papers; k++) {
            int place = k;
            all.add(o -> o.ballot(area, 0, place));
        }
    }

    private void addVoter(int voter, int papers) {
        all.add(o -> o.areaOf(voter));
        all.add(o -> o.isOnRoll(voter));
        all.add(o -> o.paperOf(voter));
        for (int k = 0; k < papers; k++) {
            int paper = k;
            all.add(o -> o.wouldCount(paper, voter));
        }
    }

    private void addPaper(int paper, int papers) {
        for (int k = 0; k < 4; k++) {
            int place = k;
            all.add(o -> o.surname(paper, place));
        }
        all.add(o -> o.isReplaceable(paper));
        all.add(o -> o.counted(paper));
        all.add(o -> o.reason(paper));
        all.add(o -> o.reasonByReplay(paper));
        all.add(o -> o.votes(paper));
        all.add(o -> o.share(paper));
        all.add(o -> o.deposit(paper));
        all.add(o -> o.paid(paper));
        all.add(o -> o.placeOnBallot(paper, 0));
        all.add(o -> o.fewestWithdrawals(paper));
        for (int k = 0; k < papers; k++) {
            int other = k;
            all.add(o -> o.gain(paper, other));
        }
    }
}
