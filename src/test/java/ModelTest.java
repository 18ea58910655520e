import java.util.Map;
import java.util.Random;
import java.util.TreeMap;

/** All promises: runs of 512 calls, made up from fixed seeds, in which Nominator has to answer as Model does. */
public final class ModelTest {
    private static final int RUNS = 600;
    private static final int CALLS = 512;
    private static final String[] OPEN = {"sign", "sign", "sign", "sign", "sign", "sign", "sign", "sign", "sign",
        "sign", "sign", "sign", "sign", "sign", "pay", "pay", "pay", "pay", "move", "restore", "replace", "file",
        "fewestWithdrawals", "gain"};
    private static final String[] CLOSED = {"withdraw", "die", "replace", "replace", "strike", "restore", "draw",
        "ballot", "placeOnBallot", "deposit", "reason"};
    private static final String[] POLLING = {"addVotes", "addVotes", "addVotes", "addVotes", "addVotes", "addVotes",
        "addVotes", "finish", "winner", "draw", "share", "deposit", "ballot", "placeOnBallot"};
    private static final String[] ALL = {"setCalendar", "day", "isOpen", "addArea", "addVoter", "move",
        "strike", "restore", "areaOf", "isOnRoll", "file", "sign", "pay", "withdraw", "die", "replace",
        "isReplaceable", "surname", "papers", "counted", "signatureResult", "wouldCount", "paperOf", "gain",
        "fewestWithdrawals", "signatures", "reason", "reasonByReplay", "ballotSize", "draw", "letter", "ballot",
        "placeOnBallot", "addVotes", "finish", "votes", "share", "winner", "deposit", "paid", "sumHeld", "sumLost",
        "lostShare"};

    private static final int[] WILD = {Integer.MAX_VALUE, Integer.MAX_VALUE - 1, Integer.MIN_VALUE,
        Integer.MIN_VALUE + 1, -1, 31, 32, 64, 255, 256, 1 << 16, 1 << 30, -1 << 30, -32, -40};

    private final Random random;
    private final Nominator office = new Nominator();
    private final Model model = new Model();
    private final StringBuilder story = new StringBuilder();
    private final int areas;
    private final int voters;
    private final int filed;
    private final int lastOpenCall;

    private ModelTest(long seed) {
        random = new Random(seed);
        areas = 1 + random.nextInt(3);
        voters = 3 + random.nextInt(38);
        filed = 2 + random.nextInt(11);
        lastOpenCall = 200 + random.nextInt(200);
    }

    public static void main(String[] args) {
        Map<String, Integer> seen = new TreeMap<>();
        for (int k = 0; k < RUNS; k++) {
            if (!new ModelTest(k).agrees(seen)) {
                Check.wrong("the run with the seed " + k + " ends with the wrong answer");
                break;
            }
        }
        for (String name : ALL) {
            Check.same(name + " has answered in some run", seen.containsKey(name), true);
        }
        Check.same("pass has answered in some run", seen.containsKey("pass"), true);
        Check.end();
    }

    private boolean agrees(Map<String, Integer> seen) {
        for (int k = 0; k < CALLS; k++) {
            String name = nextName(k);
            int[] given = sometimesWild(argumentsOf(name));
            Object got = Check.outcomeOf(() -> call(name, given));
            Object due = Check.outcomeOf(() -> model.call(name, given));
            story.append(name).append(java.util.Arrays.toString(given)).append(" -> ").append(got).append('\n');
            if (!due.equals(got)) {
                Check.wrong(story + "due is " + due);
                return false;
            }
            if (!(got instanceof String)) {
                seen.merge(name, 1, Integer::sum);
            }
        }
        return true;
    }

    /** Chooses calls that fit the time, so that all runs go on until the votes are counted. */
    private String nextName(int call) {
        if (call <= areas) {
            return call == 0 ? "setCalendar" : "addArea";
        }
        if (call <= areas + voters + filed) {
            return call <= areas + voters ? "addVoter" : "file";
        }
        int chance = random.nextInt(100);
        boolean open = (Boolean) known("isOpen");
        if (chance < 1 || chance < 40 && call > lastOpenCall && (open || chance < 8)) {
            return "pass";
        }
        if (chance < 45) {
            return one(ALL);
        }
        return one(open ? OPEN : (Integer) known("day") < 20 ? CLOSED : POLLING);
    }

    /** What the office is asked to choose a call would be a call of its own, so the model is asked. */
    private Object known(String name, int... given) {
        return model.call(name, given);
    }

    private String one(String[] names) {
        return names[random.nextInt(names.length)];
    }

    /** Now and then one of the arguments is far away from all ranges, or next to where a sum would wrap around. */
    private int[] sometimesWild(int[] given) {
        if (random.nextInt(60) == 0) {
            given[random.nextInt(given.length)] = WILD[random.nextInt(WILD.length)];
        }
        return given;
    }

    private int[] argumentsOf(String name) {
        switch (name) {
            case "setCalendar": return new int[] {9 - upTo(2), 9 + upTo(6), 16 + upTo(4) - upTo(1)};
            case "pass": return new int[] {random.nextInt(12) == 0 ? upTo(32) - 1 : 1 + upTo(1)};
            case "addArea": return new int[] {random.nextInt(9) == 0 ? upTo(11) : 1 + upTo(2), amount(upTo(500))};
            case "addVoter": case "ballotSize": case "finish": case "winner": return new int[] {area()};
            case "move": return new int[] {voter(), area()};
            case "strike": case "restore": case "areaOf": case "isOnRoll": case "paperOf": return new int[] {voter()};
            case "file": return new int[] {area(), party(), sign(0), sign(1), sign(2), sign(3)};
            case "sign": case "wouldCount": return signer();
            case "pay": return new int[] {paper(), amount(1 + upTo(999))};
            case "replace": return new int[] {paper(), sign(0), sign(1), sign(2), sign(3)};
            case "surname": return new int[] {paper(), upTo(5) - 1};
            case "signatureResult": return new int[] {number((Integer) known("signatures"))};
            case "gain": return new int[] {paper(), paper()};
            case "draw": return new int[] {random.nextInt()};
            case "letter": return new int[] {upTo(27) - 1};
            case "ballot": return new int[] {area(), precinct(), upTo(4) - 1};
            case "placeOnBallot": return new int[] {paper(), precinct()};
            case "addVotes": return new int[] {paper(), upTo(random.nextInt(3) == 0 ? 10001 : 40)};
            default: return new int[] {paper()};
        }
    }

    /** Most voters sign for papers of their area. */
    private int[] signer() {
        int[] pair = {paper(), voter()};
        for (int k = 0; k < 8 && !isLocal(pair); k++) {
            pair = new int[] {paper(), voter()};
        }
        return pair;
    }

    private boolean isLocal(int[] pair) {
        return Boolean.TRUE.equals(Check.outcomeOf(() -> model.local(pair[0], pair[1])));
    }

    private int amount(int usual) {
        return random.nextInt(12) == 0 ? upTo(3) * 500 + upTo(2) - 1 : usual;
    }

    private int upTo(int most) {
        return random.nextInt(most + 1);
    }

    /** Mostly a number below the size, sometimes one that is next to them. */
    private int number(int size) {
        return size == 0 || random.nextInt(25) == 0 ? upTo(1) * (size + 1) - 1 : random.nextInt(size);
    }

    private int area() {
        return number(model.areaCount());
    }

    private int voter() {
        return number(model.voterCount());
    }

    private int paper() {
        return number((Integer) known("papers"));
    }

    private int party() {
        return random.nextInt(12) == 0 ? upTo(10) - 2 : upTo(3) - 1;
    }

    private int precinct() {
        return random.nextInt(10) == 0 ? upTo(1) * 1001 - 1 : upTo(999);
    }

    /** Few letters, so that names are often the same or begin alike; sometimes a character that does not belong. */
    private int sign(int place) {
        int chance = random.nextInt(80);
        if (chance == 0) {
            return "{`A \u00e9".charAt(random.nextInt(5));
        }
        return place > 1 || place > 0 && chance < 30 ? ' ' : 'a' + random.nextInt(chance < 60 ? 3 : 26);
    }

    private Object call(String name, int[] a) {
        switch (name) {
            case "setCalendar": return office.setCalendar(a[0], a[1], a[2]);
            case "pass": return office.pass(a[0]);
            case "day": return office.day();
            case "isOpen": return office.isOpen();
            case "addArea": return office.addArea(a[0], a[1]);
            case "addVoter": return office.addVoter(a[0]);
            case "move": return office.move(a[0], a[1]);
            case "strike": return office.strike(a[0]);
            case "restore": return office.restore(a[0]);
            case "areaOf": return office.areaOf(a[0]);
            case "isOnRoll": return office.isOnRoll(a[0]);
            case "file":
                return office.file(a[0], a[1], (char) a[2], (char) a[3], (char) a[4], (char) a[5]);
            case "sign": return office.sign(a[0], a[1]);
            case "pay": return office.pay(a[0], a[1]);
            case "withdraw": return office.withdraw(a[0]);
            case "die": return office.die(a[0]);
            case "replace": return office.replace(a[0], (char) a[1], (char) a[2], (char) a[3], (char) a[4]);
            case "isReplaceable": return office.isReplaceable(a[0]);
            case "surname": return office.surname(a[0], a[1]);
            case "papers": return office.papers();
            case "signatures": return office.signatures();
            case "draw": return office.draw(a[0]);
            case "letter": return office.letter(a[0]);
            case "sumHeld": return office.sumHeld();
            case "sumLost": return office.sumLost();
            case "lostShare": return office.lostShare();
            default: return ask(name, a);
        }
    }

    private Object ask(String name, int[] a) {
        switch (name) {
            case "counted": return office.counted(a[0]);
            case "signatureResult": return office.signatureResult(a[0]);
            case "wouldCount": return office.wouldCount(a[0], a[1]);
            case "paperOf": return office.paperOf(a[0]);
            case "gain": return office.gain(a[0], a[1]);
            case "fewestWithdrawals": return office.fewestWithdrawals(a[0]);
            case "reason": return office.reason(a[0]);
            case "reasonByReplay": return office.reasonByReplay(a[0]);
            case "ballotSize": return office.ballotSize(a[0]);
            case "ballot": return office.ballot(a[0], a[1], a[2]);
            case "placeOnBallot": return office.placeOnBallot(a[0], a[1]);
            case "addVotes": return office.addVotes(a[0], a[1]);
            case "finish": return office.finish(a[0]);
            case "votes": return office.votes(a[0]);
            case "share": return office.share(a[0]);
            case "winner": return office.winner(a[0]);
            case "deposit": return office.deposit(a[0]);
            case "paid": return office.paid(a[0]);
            default: throw new AssertionError(name);
        }
    }
}
