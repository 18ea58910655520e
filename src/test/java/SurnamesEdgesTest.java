/** The edges of surnames, in file, replace and surname. Each test tells its sentence. */
public final class SurnamesEdgesTest {
    private static final Class<IndexOutOfBoundsException> NOT_THERE = IndexOutOfBoundsException.class;
    private static final Class<IllegalArgumentException> RANGE = IllegalArgumentException.class;
    // Next to the letters and the blank, far away from them, and such as differ from them in the high bits alone.
    private static final char[] STRANGE = {'`', '{', '@', 'A', 'Z', '[', '_', '0', '9', '-', '\'', '!', '\u001f', '\t',
        '\n', '\u0000', '\u007f', '\u00a0', '\u00e4', '\u00ff', '\u0120', '\u0161', '\u017a', '\u3000', '\u8061',
        '\uff41', '\uffff'};

    private SurnamesEdgesTest() {
    }

    public static void main(String[] args) {
        oneToFourLettersAndThenBlanks();
        lettersFromAToZ();
        strangeCharacters();
        blanksOfOtherKinds();
        surnamePlaces();
        surnameOfTheNewCandidate();
        Check.end();
    }

    private static int fileNamed(Nominator office, char[] name) {
        return office.file(0, 1, name[0], name[1], name[2], name[3]);
    }

    private static int replaceNamed(Nominator office, char[] name) {
        return office.replace(0, name[0], name[1], name[2], name[3]);
    }

    private static void allowed(char[] name) {
        String what = "the name '" + new String(name) + "'";
        Nominator office = Offices.twoAreas();
        Check.same("file, " + what, Check.outcomeOf(() -> fileNamed(office, name)), 0);
        Check.same("surname, " + what, Offices.nameOf(office, 0), new String(name));
        Nominator other = Offices.fourPapers();
        Check.same("replace, " + what, Check.outcomeOf(() -> replaceNamed(other, name)), 1);
        Check.same("surname after replace, " + what, Offices.nameOf(other, 0), new String(name));
    }

    private static void refused(char[] name) {
        StringBuilder what = new StringBuilder("the name");
        for (char sign : name) {
            what.append(' ').append((int) sign);
        }
        Check.refuses(Offices::fourPapers, "file, " + what, RANGE, o -> fileNamed(o, name));
        Check.refuses(Offices::fourPapers, "replace, " + what, RANGE, o -> replaceNamed(o, name));
    }

    /**
     * "A surname consists of one to four letters ... and is given as four characters: its letters, followed by blanks
     * (' ') if there are fewer than four." All 16 ways to put letters and blanks.
     */
    private static void oneToFourLettersAndThenBlanks() {
        for (int way = 0; way < 16; way++) {
            char[] name = new char[4];
            for (int k = 0; k < 4; k++) {
                name[k] = (way >> k & 1) == 1 ? "kfmu".charAt(k) : ' ';
            }
            if (way == 0b0001 || way == 0b0011 || way == 0b0111 || way == 0b1111) {
                allowed(name);
            } else {
                refused(name);
            }
        }
    }

    /** "letters from 'a' to 'z'": the first and the last of them at each place. */
    private static void lettersFromAToZ() {
        for (int k = 0; k < 4; k++) {
            for (char letter = 'a'; letter <= 'z'; letter++) {
                char[] name = "mmmm".toCharArray();
                name[k] = letter;
                allowed(name);
            }
        }
        allowed("a   ".toCharArray());
        allowed("z   ".toCharArray());
        allowed("aaaa".toCharArray());
        allowed("zzzz".toCharArray());
    }

    /** "IllegalArgumentException if ... the characters are not a surname": each place with what is no letter. */
    private static void strangeCharacters() {
        for (char strange : STRANGE) {
            for (int k = 0; k < 4; k++) {
                char[] name = "mmmm".toCharArray();
                name[k] = strange;
                refused(name);
            }
        }
    }

    /** "followed by blanks (' ')": nothing else may stand for a blank. */
    private static void blanksOfOtherKinds() {
        for (char strange : STRANGE) {
            refused(new char[] {'m', strange, strange, strange});
            refused(new char[] {'m', ' ', ' ', strange});
        }
    }

    /** "place: the place of the character, 0 to 3" */
    private static void surnamePlaces() {
        Check.refuses(Offices::fourPapers, "surname(0, -1)", NOT_THERE, o -> o.surname(0, -1));
        Check.asks(Offices::fourPapers, "surname(0, 0)", 'a', o -> o.surname(0, 0));
        Check.asks(Offices::fourPapers, "surname(0, 1)", 'b', o -> o.surname(0, 1));
        Check.asks(Offices::fourPapers, "surname(0, 2)", 'e', o -> o.surname(0, 2));
        Check.asks(Offices::fourPapers, "surname(0, 3)", 'l', o -> o.surname(0, 3));
        Check.refuses(Offices::fourPapers, "surname(0, 4)", NOT_THERE, o -> o.surname(0, 4));
        Check.asks(Offices::fourPapers, "surname(1, 2), a blank", ' ', o -> o.surname(1, 2));
        Check.asks(Offices::fourPapers, "surname(1, 3), a blank", ' ', o -> o.surname(1, 3));
        Check.refuses(Offices::fourPapers, "surname(0, largest)", NOT_THERE, o -> o.surname(0, Integer.MAX_VALUE));
        Check.refuses(Offices::fourPapers, "surname(0, least)", NOT_THERE, o -> o.surname(0, Integer.MIN_VALUE));
        Check.refuses(Offices::twoAreas, "surname without papers", NOT_THERE, o -> o.surname(0, 0));
        Check.asks(Offices::full, "surname of the last paper", 'l', o -> o.surname(11, 1));
        Check.refuses(Offices::full, "surname of the paper 12", NOT_THERE, o -> o.surname(12, 0));
    }

    /** "after a replacement, of the new candidate" */
    private static void surnameOfTheNewCandidate() {
        Nominator office = Offices.fourPapers();
        office.die(0);
        Check.same("surname of the dead", Offices.nameOf(office, 0), "abel");
        Offices.replace(office, 0, "x");
        Check.same("surname of the new one", Offices.nameOf(office, 0), "x   ");
        Check.same("surname of another paper", Offices.nameOf(office, 1), "bo  ");
        Check.same("a refused replacement",
                Check.outcomeOf(() -> office.replace(0, 'y', ' ', 'y', ' ')), "IllegalArgumentException");
        Check.same("surname after that", Offices.nameOf(office, 0), "x   ");
        office.withdraw(0);
        Check.same("surname of a withdrawn paper", Offices.nameOf(office, 0), "x   ");
        Check.same("surname of a rejected paper", Offices.nameOf(Offices.closed(), 1), "bo  ");
    }
}
