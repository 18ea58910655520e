/** "The constants", with their values; the reasons, results and states that calls answer are among these. */
public final class ConstantsTest {
    private ConstantsTest() {
    }

    public static void main(String[] args) {
        Check.same("INDEPENDENT", Nominator.INDEPENDENT, -1);
        Check.same("STANDS", Nominator.STANDS, 0);
        Check.same("WITHDRAWN", Nominator.WITHDRAWN, 1);
        Check.same("DEPOSIT_SHORT", Nominator.DEPOSIT_SHORT, 2);
        Check.same("TOO_FEW_SIGNATURES", Nominator.TOO_FEW_SIGNATURES, 3);
        Check.same("DOUBLE", Nominator.DOUBLE, 4);
        Check.same("DEAD", Nominator.DEAD, 5);
        Check.same("COUNTS", Nominator.COUNTS, 0);
        Check.same("NOT_LOCAL", Nominator.NOT_LOCAL, 1);
        Check.same("STRUCK_OFF", Nominator.STRUCK_OFF, 2);
        Check.same("PAPER_WITHDRAWN", Nominator.PAPER_WITHDRAWN, 3);
        Check.same("SIGNED_EARLIER", Nominator.SIGNED_EARLIER, 4);
        Check.same("HELD", Nominator.HELD, 0);
        Check.same("RETURNED", Nominator.RETURNED, 1);
        Check.same("LOST", Nominator.LOST, 2);
        Check.end();
    }
}
