/** Promises 13 to 21. */
public final class PapersTest {
    private static final Class<IndexOutOfBoundsException> NOT_THERE = IndexOutOfBoundsException.class;
    private static final Class<IllegalArgumentException> RANGE = IllegalArgumentException.class;
    private static final Class<IllegalStateException> STATE = IllegalStateException.class;

    private PapersTest() {
    }

    public static void main(String[] args) {
        file();
        fileRefuses();
        sign();
        signRefuses();
        pay();
        payRefuses();
        withdraw();
        withdrawRefuses();
        die();
        dieRefuses();
        replace();
        replaceRefuses();
        isReplaceable();
        surname();
        papers();
        Check.end();
    }

    private static Nominator twelvePapers() {
        Nominator office = new Nominator();
        office.addArea(1, 0);
        for (int k = 0; k < 12; k++) {
            Offices.file(office, 0, k % 8, "a");
        }
        return office;
    }

    private static void file() {
        Nominator office = Offices.twoAreas();
        Check.same("file for the party 0", Offices.file(office, 0, 0, "a"), 0);
        Check.same("file for the party 7", Offices.file(office, 1, 7, "zz"), 1);
        Check.same("file of an independent", Offices.file(office, 0, Nominator.INDEPENDENT, "azaz"), 2);
        Check.same("file of the same again", Offices.file(office, 0, 0, "a"), 3);
        Check.same("paid for a new paper", office.paid(0), 0);
        Check.same("signatures of a new paper", office.counted(0), 0);
        Check.same("a new candidate is alive", office.die(0), true);
        Check.same("the twelfth paper", twelvePapers().papers(), 12);
        office = Offices.later(Offices.twoAreas(), 20);
        Check.same("file on the closing day", Offices.file(office, 0, 0, "a"), 0);
    }

    private static void fileRefuses() {
        Check.refuses(Offices::twoAreas, "area 2", NOT_THERE, o -> o.file(2, 0, 'a', ' ', ' ', ' '));
        Check.refuses(Offices::twoAreas, "area -1, party 8", NOT_THERE, o -> o.file(-1, 8, 'a', ' ', ' ', ' '));
        Check.refuses(Offices::twoAreas, "party 8", RANGE, o -> o.file(0, 8, 'a', ' ', ' ', ' '));
        Check.refuses(Offices::twoAreas, "party -2", RANGE, o -> o.file(0, -2, 'a', ' ', ' ', ' '));
        String[] names = {"    ", " a  ", "a b ", "a  b", "ab c", "A   ", "aB  ", "abC ", "abcD", "`   ", "{   ",
            "a`  ", "a{  ", "ab` ", "ab{ ", "abc`", "abc{", "a\u0000  ", "\u00e4   ", "a\u0161  ", "\uffffaaa"};
        for (String name : names) {
            Check.refuses(Offices::twoAreas, "the name " + name, RANGE,
                    o -> o.file(0, 0, name.charAt(0), name.charAt(1), name.charAt(2), name.charAt(3)));
        }
        Check.refuses(Offices::closed, "file after the close", STATE, o -> o.file(0, 0, 'a', ' ', ' ', ' '));
        Check.refuses(Offices::closed, "party 8 after the close", RANGE, o -> o.file(0, 8, 'a', ' ', ' ', ' '));
        Check.refuses(PapersTest::twelvePapers, "paper 13", STATE, o -> o.file(0, 0, 'a', ' ', ' ', ' '));
        Check.refuses(PapersTest::twelvePapers, "paper 13 without a name", RANGE,
                o -> o.file(0, 0, ' ', ' ', ' ', ' '));
    }

    private static void sign() {
        Nominator office = Offices.fourPapers();
        Check.same("sign(0, 0)", office.sign(0, 0), 0);
        Check.same("sign(3, 4)", office.sign(3, 4), 1);
        Check.same("sign(0, 0) again", office.sign(0, 0), 2);
        Check.same("sign of a voter of another area", office.sign(0, 4), 3);
        Check.same("counted after sign", office.counted(0), 1);
        office.pass(20);
        Check.same("sign on the closing day", office.sign(0, 1), 4);
        Check.same("counted on the closing day", office.counted(0), 2);
    }

    private static Nominator allSignatures() {
        Nominator office = Offices.fourPapers();
        for (int k = 0; k < 150; k++) {
            office.sign(0, 0);
        }
        return office;
    }

    private static void signRefuses() {
        Check.refuses(Offices::fourPapers, "sign(4, 0)", NOT_THERE, o -> o.sign(4, 0));
        Check.refuses(Offices::fourPapers, "sign(-1, 0)", NOT_THERE, o -> o.sign(-1, 0));
        Check.refuses(Offices::fourPapers, "sign(0, 6)", NOT_THERE, o -> o.sign(0, 6));
        Check.refuses(Offices::fourPapers, "sign(0, -1)", NOT_THERE, o -> o.sign(0, -1));
        Check.refuses(Offices::closed, "sign after the close", STATE, o -> o.sign(0, 0));
        Check.refuses(Offices::closed, "sign(0, 6) after the close", NOT_THERE, o -> o.sign(0, 6));
        Check.refuses(() -> Offices.withdrawn(Offices.fourPapers(), 1), "sign for a paper that is withdrawn", STATE,
                o -> o.sign(1, 0));
        Nominator office = allSignatures();
        Check.same("150 signatures", office.signatures(), 150);
        Check.same("the last signature", office.signatureResult(149), Nominator.SIGNED_EARLIER);
        Check.same("signature 151", Check.outcomeOf(() -> office.sign(0, 1)), "IllegalStateException");
        Check.same("signature 151 without a voter", Check.outcomeOf(() -> office.sign(0, 6)),
                "IndexOutOfBoundsException");
        Check.same("signatures after signature 151", office.signatures(), 150);
        Check.same("wouldCount after 150 signatures", office.wouldCount(0, 1), true);
        Check.same("gain after 150 signatures", office.gain(0, 1), 0);
        Check.same("counted after 150 signatures", office.counted(0), 1);
        Check.same("paperOf after 150 signatures", office.paperOf(0), 0);
        Check.same("fewestWithdrawals after 150 signatures",
                Check.outcomeOf(() -> office.fewestWithdrawals(0)), "NoSuchElementException");
    }

    private static void pay() {
        Nominator office = Offices.fourPapers();
        Check.same("pay(0, 1)", office.pay(0, 1), 1);
        Check.same("pay(0, 1000)", office.pay(0, 1000), 1001);
        Check.same("pay for another paper", office.pay(1, 7), 7);
        Check.same("paid", office.paid(0), 1001);
        office.pass(20);
        Check.same("pay on the closing day", office.pay(1, 3), 10);
    }

    private static void payRefuses() {
        Check.refuses(Offices::fourPapers, "pay(4, 0)", NOT_THERE, o -> o.pay(4, 0));
        Check.refuses(Offices::fourPapers, "pay(-1, 1)", NOT_THERE, o -> o.pay(-1, 1));
        Check.refuses(Offices::fourPapers, "pay(0, 0)", RANGE, o -> o.pay(0, 0));
        Check.refuses(Offices::fourPapers, "pay(0, 1001)", RANGE, o -> o.pay(0, 1001));
        Check.refuses(Offices::fourPapers, "pay(0, -5)", RANGE, o -> o.pay(0, -5));
        Check.refuses(Offices::closed, "pay after the close", STATE, o -> o.pay(0, 1));
        Check.refuses(Offices::closed, "pay(0, 0) after the close", RANGE, o -> o.pay(0, 0));
        Check.refuses(() -> Offices.withdrawn(Offices.fourPapers(), 1), "pay for a paper that is withdrawn", STATE,
                o -> o.pay(1, 1));
    }

    private static void withdraw() {
        Nominator office = Offices.fourPapers();
        office.sign(0, 0);
        office.sign(0, 1);
        office.sign(0, 2);
        office.sign(1, 0);
        office.sign(1, 0);
        office.sign(2, 0);
        office.sign(2, 1);
        Check.same("withdraw frees one signature of two papers", office.withdraw(0), 2);
        Check.same("counted of the paper that is withdrawn", office.counted(0), 0);
        Check.same("counted of the second paper", office.counted(1), 1);
        Check.same("counted of the third paper", office.counted(2), 1);
        Check.same("withdraw of a paper that blocks one", office.withdraw(1), 1);
        Check.same("withdraw of a paper that blocks none", office.withdraw(2), 0);
        office = Offices.fourPapers();
        office.sign(1, 0);
        office.sign(0, 0);
        Check.same("withdraw frees a signature of the paper 0", office.withdraw(1), 1);
        office = Offices.closed();
        Check.same("withdraw of an accepted paper", office.withdraw(0), 0);
        Check.same("counted after a late withdrawal", office.counted(0), 2);
        office = Offices.later(Offices.closed(), 4);
        Check.same("withdraw on the last day for changes", office.withdraw(0), 0);
    }

    private static void withdrawRefuses() {
        Check.refuses(Offices::fourPapers, "withdraw(4)", NOT_THERE, o -> o.withdraw(4));
        Check.refuses(Offices::fourPapers, "withdraw(-1)", NOT_THERE, o -> o.withdraw(-1));
        Check.refuses(() -> Offices.withdrawn(Offices.fourPapers(), 1), "withdraw twice", STATE, o -> o.withdraw(1));
        Check.refuses(Offices::closed, "withdraw of a rejected paper", STATE, o -> o.withdraw(1));
        Check.refuses(() -> Offices.withdrawn(Offices.closed(), 0), "a late withdrawal twice", STATE,
                o -> o.withdraw(0));
        Check.refuses(Offices::afterChanges, "withdraw after the last day for changes", STATE, o -> o.withdraw(0));
    }

    private static void die() {
        Nominator office = Offices.fourPapers();
        Check.same("die for a party", office.die(0), true);
        Check.same("die of an independent", office.die(2), false);
        Check.same("die of an accepted candidate", Offices.closed().die(0), true);
        Check.same("die on the last day for changes", Offices.later(Offices.closed(), 4).die(0), true);
        Check.same("die after the last day for changes", Offices.afterChanges().die(0), false);
        Check.same("die on the day before polling", Offices.later(Offices.closed(), 18).die(0), false);
        office = Offices.fourPapers();
        Offices.replace(office, 0, "x");
        Check.same("die after one replacement", office.die(0), true);
        Offices.replace(office, 0, "y");
        Check.same("die after two replacements", office.die(0), false);
    }

    private static void dieRefuses() {
        Check.refuses(Offices::fourPapers, "die(4)", NOT_THERE, o -> o.die(4));
        Check.refuses(Offices::fourPapers, "die(-1)", NOT_THERE, o -> o.die(-1));
        Check.refuses(() -> Offices.withdrawn(Offices.fourPapers(), 1), "die after a withdrawal", STATE,
                o -> o.die(1));
        Check.refuses(() -> Offices.dead(Offices.fourPapers(), 1), "die twice", STATE, o -> o.die(1));
        Check.refuses(Offices::closed, "die of a rejected candidate", STATE, o -> o.die(1));
        Check.refuses(Offices::pollingDay, "die on the polling day", STATE, o -> o.die(0));
    }

    private static void replace() {
        Nominator office = Offices.fourPapers();
        Check.same("replace of a living candidate", Offices.replace(office, 0, "new"), 1);
        Check.same("the new surname", Offices.nameOf(office, 0), "new ");
        office.die(0);
        Check.same("replace of a dead candidate", Offices.replace(office, 0, "last"), 2);
        Check.same("the last surname", Offices.nameOf(office, 0), "last");
        Check.same("the new candidate is alive", office.die(0), false);
        Check.same("replace for another paper", Offices.replace(office, 1, "b"), 1);
        office = Offices.dead(Offices.closed(), 0);
        office.pass(4);
        Check.same("reason of a dead candidate", office.reason(0), Nominator.DEAD);
        Check.same("replace on the last day for changes", Offices.replace(office, 0, "b"), 1);
        Check.same("reason of the new candidate", office.reason(0), Nominator.STANDS);
    }

    private static void replaceRefuses() {
        Check.refuses(Offices::fourPapers, "replace(4, blanks)", NOT_THERE, o -> o.replace(4, ' ', ' ', ' ', ' '));
        Check.refuses(Offices::fourPapers, "replace(-1)", NOT_THERE, o -> o.replace(-1, 'a', ' ', ' ', ' '));
        Check.refuses(Offices::fourPapers, "replace by blanks", RANGE, o -> o.replace(0, ' ', ' ', ' ', ' '));
        Check.refuses(Offices::fourPapers, "replace by a gap", RANGE, o -> o.replace(0, 'a', 'b', ' ', 'c'));
        Check.refuses(Offices::fourPapers, "replace an independent", STATE, o -> o.replace(2, 'a', ' ', ' ', ' '));
        Check.refuses(Offices::fourPapers, "replace an independent by blanks", RANGE,
                o -> o.replace(2, ' ', ' ', ' ', ' '));
        Check.refuses(Offices::closed, "replace a living candidate late", STATE,
                o -> o.replace(0, 'a', ' ', ' ', ' '));
        Check.refuses(Offices::closed, "replace a rejected candidate", STATE, o -> o.replace(1, 'a', ' ', ' ', ' '));
        Check.refuses(PapersTest::replacedTwice, "replace three times", STATE, o -> o.replace(0, 'a', ' ', ' ', ' '));
    }

    private static Nominator replacedTwice() {
        Nominator office = Offices.fourPapers();
        Offices.replace(office, 0, "x");
        Offices.replace(office, 0, "y");
        return office;
    }

    private static void isReplaceable() {
        Check.asks(Offices::fourPapers, "a party's candidate", true, o -> o.isReplaceable(0));
        Check.asks(Offices::fourPapers, "an independent candidate", false, o -> o.isReplaceable(2));
        Check.asks(() -> Offices.dead(Offices.fourPapers(), 0), "a dead candidate", true, o -> o.isReplaceable(0));
        Check.asks(() -> Offices.withdrawn(Offices.fourPapers(), 0), "a withdrawn paper", false,
                o -> o.isReplaceable(0));
        Check.asks(PapersTest::replacedTwice, "replaced twice", false, o -> o.isReplaceable(0));
        Check.asks(Offices::closed, "a living candidate late", false, o -> o.isReplaceable(0));
        Check.asks(Offices::closed, "a rejected candidate", false, o -> o.isReplaceable(1));
        Check.asks(() -> Offices.dead(Offices.closed(), 0), "a dead candidate late", true, o -> o.isReplaceable(0));
        Check.asks(() -> Offices.later(Offices.dead(Offices.readyToClose(), 1), 21), "dead and rejected", false,
                o -> o.isReplaceable(1));
        Check.asks(() -> Offices.later(Offices.dead(Offices.closed(), 0), 4), "dead, last day for changes", true,
                o -> o.isReplaceable(0));
        Check.asks(() -> Offices.later(Offices.dead(Offices.closed(), 0), 5), "dead, a day later", false,
                o -> o.isReplaceable(0));
        Check.refuses(Offices::fourPapers, "isReplaceable(4)", NOT_THERE, o -> o.isReplaceable(4));
        Check.refuses(Offices::fourPapers, "isReplaceable(-1)", NOT_THERE, o -> o.isReplaceable(-1));
    }

    private static void surname() {
        Check.same("surname of the paper 0", Offices.nameOf(Offices.fourPapers(), 0), "abel");
        Check.same("surname of the paper 1", Offices.nameOf(Offices.fourPapers(), 1), "bo  ");
        Check.asks(Offices::fourPapers, "surname(3, 1)", 'e', o -> o.surname(3, 1));
        Check.asks(Offices::fourPapers, "surname(3, 3)", ' ', o -> o.surname(3, 3));
        Check.refuses(Offices::fourPapers, "surname(4, 0)", NOT_THERE, o -> o.surname(4, 0));
        Check.refuses(Offices::fourPapers, "surname(-1, 0)", NOT_THERE, o -> o.surname(-1, 0));
        Check.refuses(Offices::fourPapers, "surname(0, 4)", NOT_THERE, o -> o.surname(0, 4));
        Check.refuses(Offices::fourPapers, "surname(0, -1)", NOT_THERE, o -> o.surname(0, -1));
    }

    private static void papers() {
        Check.asks(Offices::fourPapers, "papers", 4, o -> o.papers());
        Check.asks(() -> Offices.withdrawn(Offices.closed(), 0), "papers, withdrawn and rejected ones too", 4,
                o -> o.papers());
    }
}
