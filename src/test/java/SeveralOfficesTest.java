import java.util.ArrayList;
import java.util.List;
import java.util.function.Function;

/** Promise 1, "Creates an office": its own one, so that offices which take turns answer as each does alone. */
public final class SeveralOfficesTest {
    private SeveralOfficesTest() {
    }

    public static void main(String[] args) {
        takeTurns("the same twice", storyOf(1, 7), storyOf(1, 7));
        takeTurns("with other numbers", storyOf(1, 7), storyOf(3, -5));
        takeTurns("the second one later", storyOf(2, 7), delayed(storyOf(2, 9), 23));
        takeTurns("the first one later", delayed(storyOf(3, 1), 57), storyOf(1, 2));
        newOnesAreEmpty();
        lettersOfEachOffice();
        Check.end();
    }

    /** From the first area to the end of the count, with questions after each event. */
    private static List<Function<Nominator, Object>> storyOf(int needed, int seed) {
        List<Function<Nominator, Object>> story = new ArrayList<>();
        event(story, o -> o.setCalendar(needed, needed + 4, needed + 9));
        event(story, o -> o.addArea(needed, 100 * needed));
        event(story, o -> o.addArea(1, 0));
        for (int k = 0; k < 7; k++) {
            int area = k == 6 ? 1 : 0;
            event(story, o -> o.addVoter(area));
        }
        for (int k = 0; k < 4; k++) {
            String name = "dbca".substring(k);
            int party = k == 2 ? Nominator.INDEPENDENT : 2;
            event(story, o -> Offices.file(o, 0, party, name));
        }
        for (int k = 0; k < 4; k++) {
            int paper = k;
            event(story, o -> o.pay(paper, 100 * needed));
            for (int j = 0; j < 5; j++) {
                int voter = (2 * k + j) % 7;
                event(story, o -> o.sign(paper, voter));
            }
        }
        endOf(story, needed, seed);
        return story;
    }

    private static void endOf(List<Function<Nominator, Object>> story, int needed, int seed) {
        event(story, o -> o.strike(needed));
        event(story, o -> o.move(0, 1));
        event(story, o -> o.withdraw(needed));
        event(story, o -> o.restore(needed));
        event(story, o -> Offices.replace(o, 3, "q"));
        event(story, o -> o.pass(needed + 1));
        event(story, o -> o.draw(seed));
        event(story, o -> o.die(0));
        event(story, o -> o.pass(10));
        for (int k = 0; k < 4; k++) {
            int paper = k;
            event(story, o -> o.addVotes(paper, 10 * paper + needed));
        }
        event(story, o -> o.finish(0));
    }

    private static void event(List<Function<Nominator, Object>> story, Function<Nominator, Object> event) {
        int paper = story.size() % 4;
        story.add(event);
        story.add(o -> o.reason(paper));
        story.add(o -> o.reasonByReplay(paper));
        story.add(o -> o.fewestWithdrawals(paper));
        story.add(o -> o.gain(paper, 0));
        story.add(o -> o.counted(paper));
        story.add(o -> o.ballot(0, paper, 0));
        story.add(o -> o.deposit(paper));
    }

    /** Questions first, so that the other office is ahead. */
    private static List<Function<Nominator, Object>> delayed(List<Function<Nominator, Object>> story, int calls) {
        List<Function<Nominator, Object>> later = new ArrayList<>();
        for (int k = 0; k < calls; k++) {
            later.add(o -> o.day());
        }
        later.addAll(story);
        return later;
    }

    private static void takeTurns(String what, List<Function<Nominator, Object>> one,
            List<Function<Nominator, Object>> other) {
        Check.same(what + ": more than 512 calls", one.size() > 512 || other.size() > 512, false);
        List<Object> due = outcomes(one);
        List<Object> otherDue = outcomes(other);
        Nominator first = new Nominator();
        Nominator second = new Nominator();
        for (int k = 0; k < Math.max(one.size(), other.size()); k++) {
            turn(what + ", the first office", first, one, due, k);
            turn(what + ", the second office", second, other, otherDue, k);
        }
    }

    private static void turn(String what, Nominator office, List<Function<Nominator, Object>> story,
            List<Object> due, int call) {
        if (call < story.size()) {
            Object got = Check.outcomeOf(() -> story.get(call).apply(office));
            Check.same(what + ", call " + call, got, due.get(call));
        }
    }

    private static List<Object> outcomes(List<Function<Nominator, Object>> story) {
        Nominator office = new Nominator();
        List<Object> outcomes = new ArrayList<>();
        for (Function<Nominator, Object> call : story) {
            outcomes.add(Check.outcomeOf(() -> call.apply(office)));
        }
        return outcomes;
    }

    /** "without areas, voters and papers", also while there is an office with all there can be. */
    private static void newOnesAreEmpty() {
        Nominator full = Offices.full();
        Nominator empty = new Nominator();
        Check.same("papers of the new one", empty.papers(), 0);
        Check.same("signatures of the new one", empty.signatures(), 0);
        Check.same("its areas", Check.outcomeOf(() -> empty.ballotSize(0)), "IndexOutOfBoundsException");
        Check.same("its voters", Check.outcomeOf(() -> empty.areaOf(0)), "IndexOutOfBoundsException");
        Check.same("papers of the full one", full.papers(), 12);
        Check.same("signatures of the full one", full.signatures(), 150);
        Check.same("its last voter", full.areaOf(39), 4);
    }

    /** "The letters are drawn once": those of one office do not order the names in another one. */
    private static void lettersOfEachOffice() {
        int[] seeds = {7, -5, 1000};
        Nominator[] offices = new Nominator[seeds.length];
        String[] due = new String[seeds.length];
        for (int k = 0; k < seeds.length; k++) {
            due[k] = lettersAndNames(drawn(seeds[k]));
            offices[k] = drawn(seeds[k]);
        }
        for (int k = 0; k < seeds.length; k++) {
            Check.same("letters and names of the seed " + seeds[k], lettersAndNames(offices[k]), due[k]);
            Check.same("they differ from the next ones", due[k].equals(due[(k + 1) % seeds.length]), false);
        }
    }

    /** Twelve papers stand, with names from a to l. */
    private static Nominator drawn(int seed) {
        Nominator office = new Nominator();
        office.addArea(1, 0);
        for (int k = 0; k < 12; k++) {
            office.addVoter(0);
            Offices.file(office, 0, Nominator.INDEPENDENT, "" + (char) ('a' + k));
            office.sign(k, k);
        }
        office.pass(21);
        office.draw(seed);
        return office;
    }

    private static String lettersAndNames(Nominator office) {
        StringBuilder text = new StringBuilder();
        for (int k = 0; k < 26; k++) {
            text.append(office.letter(k));
        }
        for (int k = 0; k < 12; k++) {
            text.append(' ').append(office.ballot(0, 0, k));
        }
        return text.toString();
    }
}
