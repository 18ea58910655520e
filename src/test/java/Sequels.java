import java.util.concurrent.Callable;

/**
 * What happens when an office goes on, as texts: offices in the same state give the same texts, and also what no
 * question shows at once comes to light, as the days that are fixed. Each takes at most 260 calls.
 */
final class Sequels {
    private static final int DAYS = 60;

    private final Nominator office;
    private final StringBuilder text = new StringBuilder();

    private Sequels(Nominator office) {
        this.office = office;
    }

    /** Many events on the present day. */
    static String ofThisDay(Nominator office) {
        Sequels sequels = new Sequels(office);
        sequels.add(() -> office.setCalendar(5, 6, 7));
        sequels.fileAndSign();
        sequels.add(() -> office.draw(3));
        sequels.add(() -> office.letter(0));
        sequels.changePapers();
        return sequels.text.toString();
    }

    /** Day after day, until the polling day is over. */
    static String ofManyDays(Nominator office) {
        Sequels sequels = new Sequels(office);
        sequels.add(() -> office.addArea(1, 0));
        sequels.add(() -> office.addVoter(0));
        sequels.add(() -> office.file(0, 5, 's', 'e', 'q', ' '));
        sequels.add(() -> office.sign(0, 0));
        sequels.add(() -> office.die(0));
        for (int k = 0; k <= DAYS; k++) {
            sequels.add(() -> office.isOpen());
            sequels.add(() -> office.isReplaceable(0));
            sequels.add(() -> office.finish(0));
            sequels.add(() -> office.pass(1));
        }
        return sequels.text.toString();
    }

    private void fileAndSign() {
        for (int k = 0; k < 5; k++) {
            int area = k;
            add(() -> office.file(area, 6, 's', 'e', 'q', ' '));
            add(() -> office.addVoter(area));
            add(() -> office.sign(area, area));
            add(() -> office.pay(area, 1));
        }
        add(() -> office.addArea(1, 0));
    }

    private void changePapers() {
        for (int k = 0; k < 12; k++) {
            int paper = k;
            add(() -> office.reason(paper));
            add(() -> office.replace(paper, 'x', ' ', ' ', ' '));
            add(() -> office.replace(paper, 'y', ' ', ' ', ' '));
            add(() -> office.replace(paper, 'z', ' ', ' ', ' '));
            add(() -> office.addVotes(paper, 1));
            add(() -> office.reason(paper));
            add(() -> office.reasonByReplay(paper));
        }
        for (int k = 0; k < 12; k++) {
            int paper = k;
            add(() -> office.die(paper));
            add(() -> office.withdraw(paper));
            add(() -> office.deposit(paper));
            add(() -> office.counted(paper));
        }
    }

    private void add(Callable<?> call) {
        text.append(Check.outcomeOf(call)).append(' ');
    }
}
