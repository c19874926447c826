/** Promises 1 to 9: a new object, candidates and ballots. */
public final class BallotTest {
    private static final Class<IndexOutOfBoundsException> INDEX = IndexOutOfBoundsException.class;
    private static final Class<IllegalArgumentException> ARGUMENT = IllegalArgumentException.class;
    private static final Class<IllegalStateException> STATE = IllegalStateException.class;
    private static final Check check = new Check("BallotTest");

    private static void newObject() {
        check.promise(1);
        Ballothall hall = new Ballothall();
        check.same("NONE", Ballothall.NONE, -1);
        check.same("allBallots()", hall.allBallots(), 0);
        check.same("type(0)", hall.type(0), 0);
        check.same("undo()", hall.undo(), -1);
        check.same("quota()", hall.quota(), -1);
        check.same("steps()", hall.steps(), 0);
        check.same("outputByte(0)", hall.outputByte(0), -1);
        check.same("checksum()", hall.checksum(), 0);
        check.same("errors()", hall.errors(), 0);
        check.refused(hall, "countOf(0)", INDEX, () -> hall.countOf(0));
        check.refused(hall, "ahead(0, 0)", INDEX, () -> hall.ahead(0, 0));
        check.refused(hall, "seatsOf(0)", INDEX, () -> hall.seatsOf(0));
        check.refused(hall, "greatestDistrict(1)", ARGUMENT, () -> hall.greatestDistrict(1));
        check.refused(hall, "swings(0)", INDEX, () -> hall.swings(0));
        check.same("setQuota(2)", hall.setQuota(2), 1);
    }

    private static void candidates() {
        check.promise(2);
        Ballothall hall = new Ballothall();
        for (int i = 0; i < 8; i++) {
            check.same("candidate()", hall.candidate(), i);
            check.same("its lot", hall.setLot(false, i, i), i);
        }
        check.refused(hall, "candidate() for a ninth", STATE, hall::candidate);
        check.same("H is the last letter", Check.cast(hall, "H", 1), 0);
        check.same("I is none", Check.cast(hall, "I", 1), -3);

        Ballothall later = Check.withCandidates(2);
        Check.cast(later, "A", 3);
        Check.cast(later, "A=B", 2);
        Check.cast(later, "", 1);
        later.candidate();
        check.same("the rank on a ballot that was there", later.kindAt(0, 2, true), 1);
        check.same("the rank behind a group of two", later.kindAt(1, 2, true), 1);
        check.same("the rank on an empty ballot", later.kindAt(2, 2, true), 0);
        check.same("its approval", later.kindAt(0, 2, false), 0);
        check.same("ahead of it", later.ahead(1, 2), 2);
    }

    private static void lots() {
        check.promise(3);
        Ballothall hall = Check.withCandidates(2);
        check.same("winner by its own lot", hall.winner(0), 0);
        check.same("setLot(false, 1, 0)", hall.setLot(false, 1, 0), 1);
        check.same("winner of equal lots", hall.winner(0), 0);
        check.same("setLot(false, 0, 99)", hall.setLot(false, 0, 99), 0);
        check.same("winner by the smaller lot", hall.winner(0), 1);
        check.same("the lot before", hall.setLot(false, 0, 98), 99);
        check.refused(hall, "a lot of no list", INDEX, () -> hall.setLot(true, 0, 0));
        hall.list(10);
        hall.list(10);
        hall.list(10);
        check.same("a list's lot", hall.setLot(true, 2, 1), 2);
        hall.seats(0, 2, 0);
        check.same("a tie of lists, by number", hall.seatAt(1), 1);
        check.same("a list's lot again", hall.setLot(true, 2, 0), 1);
        check.same("another list's lot", hall.setLot(true, 0, 7), 0);
        hall.seats(0, 2, 0);
        check.same("a tie of lists, by lot", hall.seatAt(0), 2);
        check.same("the next of them", hall.seatAt(1), 1);
        check.same("a candidate's lot is another one", hall.setLot(false, 0, 98), 98);
        for (int number : new int[] {-1, 2, Integer.MAX_VALUE, Integer.MIN_VALUE}) {
            check.refused(hall, "setLot(false, " + number + ", 100)", INDEX, () -> hall.setLot(false, number, 100));
        }
        check.refused(hall, "setLot(true, 3, 0)", INDEX, () -> hall.setLot(true, 3, 0));
        for (int lot : new int[] {-1, 100, Integer.MAX_VALUE, Integer.MIN_VALUE}) {
            check.refused(hall, "setLot(true, 1, " + lot + ")", ARGUMENT, () -> hall.setLot(true, 1, lot));
        }
    }

    private static void typing() {
        check.promise(4);
        Ballothall hall = Check.withCandidates(2);
        check.same("type(A>B)", hall.type(0x413E42L), 3);
        check.same("the highest byte is the first", hall.ballots(1), 0);
        check.same("rank of A", hall.kindAt(0, 0, true), 0);
        check.same("bytes that are 0", hall.type(0x41003E0000420000L), 3);
        check.same("the same ballot", hall.ballots(1), 0);
        check.same("type(0)", hall.type(0), 0);
        check.same("eight bytes", hall.type(-1L), 8);
        check.same("eight more", hall.type(Long.MIN_VALUE | 0x01010101010101L), 16);
        check.same("one of eight", hall.type(Long.MIN_VALUE), 17);
        check.same("a wrong first byte", hall.ballots(1), -3);
        Check.type(hall, "A>B=A>B=A>B=A>B=A>B=A>B=A>B=");
        check.same("28 bytes", hall.type(0), 28);
        check.refused(hall, "31 bytes", STATE, () -> hall.type(0x414141L));
        check.same("30 bytes", hall.type(0x4141L), 30);
        check.same("nothing more", hall.type(0), 30);
        check.refused(hall, "31 bytes again", STATE, () -> hall.type(1));
        check.refused(hall, "38 bytes", STATE, () -> hall.type(-1L));
        check.same("the first error of a long text", hall.ballots(1), -3 - 4);
        check.same("the text is empty then", hall.type(0), 0);
    }

    private static void errorsOfTexts() {
        Ballothall hall = Check.withCandidates(3);
        String[] texts = {"D", "a", " ", ">", "=", "|A", "A>", "A=", "A|", "AB", "A>A", "A=A", "A>B>A", "A>>B", "A|B|C",
            "A|B>C|", "A>B|", "A B", "A>B>C>D", "A>B>C>", "A=B=C=", "A>B\u00ff", "\u00ff", "A>BC", "A==B", "A>=B", "A|>B",
            "A>D", "A>@", "A>B>C>A", "A>B>C|"};
        int[] errors = {0, 0, 0, 0, 0, 0, 2, 2, 2, 1, 2, 2, 4, 2, 3,
            5, 4, 1, 6, 6, 6, 3, 0, 3, 2, 2, 2,
            2, 2, 6, 6};
        for (int i = 0; i < texts.length; i++) {
            Check.type(hall, texts[i]);
            check.same("ballots(1) of " + texts[i], hall.ballots(1), -3 - errors[i]);
            check.same("the text after " + texts[i], hall.type(0), 0);
        }
        check.same("no ballots came", hall.allBallots(), 0);
        check.same("the changes are the candidates alone", hall.undo(), 2);
        Ballothall empty = new Ballothall();
        check.same("a letter without candidates", Check.cast(empty, "A", 1), -3);
        check.same("the empty text without candidates", empty.ballots(1), 0);
    }

    private static void kinds() {
        check.promise(5);
        Ballothall hall = Check.withCandidates(4);
        String[] texts = {"A>B>C", "A=B>C", "B>A>C", "A>B|C", "", "A", "A|B=C", "A=B|C", "A>B", "A>B>C>D", "D=C=B=A"};
        int[] kinds = {0, 1, 2, 3, 4, 5, 6, 1, 7, 8, 9};
        for (int i = 0; i < texts.length; i++) {
            check.same("ballots of " + texts[i], Check.cast(hall, texts[i], i + 1), kinds[i]);
        }
        String[] again = {"A|B>C", "B=A>C", "B=A|C", "A>C=B", "A|C=B", "A>B|C", "", "A>B|C>D", "A=B=C=D", "A=B|C=D"};
        int[] found = {0, 1, 1, 6, 6, 3, 4, 10, 9, 11};
        for (int i = 0; i < again.length; i++) {
            check.same("ballots of " + again[i], Check.cast(hall, again[i], 100), found[i]);
        }
        check.same("the count of a kind told in two ways", hall.countOf(1), 2 + 8 + 200);
        check.same("the greatest count of a call", Check.cast(hall, "A", 100000), 5);
        check.same("the count then", hall.countOf(5), 100006);
        Check.type(hall, "A");
        for (int count : new int[] {0, -1, 100001, Integer.MAX_VALUE, Integer.MIN_VALUE}) {
            check.refused(hall, "ballots(" + count + ")", ARGUMENT, () -> hall.ballots(count));
        }
        for (int i = 0; i < 8; i++) {
            hall.ballots(100000);
            Check.type(hall, "A");
        }
        check.refused(hall, "ballots beyond a million", STATE, () -> hall.ballots(99995));
        check.same("a million", hall.ballots(99994), 5);
        check.same("its count", hall.countOf(5), 1000000);
        Check.type(hall, "A");
        check.refused(hall, "one more than a million", STATE, () -> hall.ballots(1));
        check.refused(hall, "both are wrong", ARGUMENT, () -> hall.ballots(0));
        Check.type(hall, "A");
        check.refused(hall, "an error in the text, but a wrong count", ARGUMENT, () -> hall.ballots(0));
        check.same("the error then", hall.ballots(1), -4);
    }

    private static void manyKinds() {
        Ballothall hall = Check.withCandidates(8);
        int kind = 0;
        for (char first = 'A'; first <= 'H'; first++) {
            for (char second = 'A'; second <= 'H' && kind < 30; second++) {
                if (first != second) {
                    check.same("a new kind", Check.cast(hall, first + "=" + second + ">", 1), -3 - 4);
                    check.same("a new kind", Check.cast(hall, first + ">" + second, 1), kind++);
                }
            }
        }
        Check.type(hall, "H>A");
        check.refused(hall, "a 31st kind", STATE, () -> hall.ballots(1));
        check.refused(hall, "a 31st kind and a wrong count", ARGUMENT, () -> hall.ballots(100001));
        Check.type(hall, "A");
        check.same("an error with 30 kinds", hall.ballots(1), -3 - 3);
        check.same("a kind that is there", Check.cast(hall, "A>B", 5), 0);
        check.same("a kind without ballots stays", hall.takeBack(0, 6), 0);
        check.same("and is found", Check.cast(hall, "A>B", 7), 0);
        check.same("with all groups", Check.cast(Check.withCandidates(8), "A>B>C>D>E>F>G>H", 1), 0);
        check.same("and one more", Check.cast(hall, "A>B>C>D>E>F>G>H>", 1), -3 - 16);
        check.same("and one more letter", Check.cast(hall, "A>B>C>D>E>F>G>H>A", 1), -3 - 16);
    }

    private static void takingBack() {
        check.promise(6);
        Ballothall hall = Check.withCandidates(2);
        Check.cast(hall, "A", 10);
        Check.cast(hall, "B", 4);
        check.same("takeBack(0, 3)", hall.takeBack(0, 3), 7);
        check.same("the count", hall.countOf(0), 7);
        check.refused(hall, "more than there are", ARGUMENT, () -> hall.takeBack(0, 8));
        check.refused(hall, "none", ARGUMENT, () -> hall.takeBack(0, 0));
        check.refused(hall, "less than none", ARGUMENT, () -> hall.takeBack(0, Integer.MIN_VALUE));
        check.same("all", hall.takeBack(0, 7), 0);
        check.refused(hall, "one of none", ARGUMENT, () -> hall.takeBack(0, 1));
        check.refused(hall, "no kind", INDEX, () -> hall.takeBack(2, 0));
        check.refused(hall, "no kind", INDEX, () -> hall.takeBack(-1, 1));
        check.same("the kind stays", hall.countOf(0), 0);
        check.same("its rank stays", hall.kindAt(0, 1, true), 1);
        check.same("the other kind", hall.countOf(1), 4);
    }

    private static void asking() {
        check.promise(7);
        Ballothall hall = Check.withCandidates(5);
        Check.cast(hall, "C=A>B|D", 2);
        Check.cast(hall, "", 3);
        Check.cast(hall, "E", 4);
        check.same("countOf(0)", hall.countOf(0), 2);
        check.same("countOf(2)", hall.countOf(2), 4);
        for (int kind : new int[] {-1, 3, 30, Integer.MAX_VALUE, Integer.MIN_VALUE}) {
            check.refused(hall, "countOf(" + kind + ")", INDEX, () -> hall.countOf(kind));
        }
        check.promise(8);
        int[] ranks = {0, 1, 0, 2, 3};
        int[] approvals = {1, 1, 1, 0, 0};
        for (int c = 0; c < 5; c++) {
            check.same("the rank of " + c, hall.kindAt(0, c, true), ranks[c]);
            check.same("the approval of " + c, hall.kindAt(0, c, false), approvals[c]);
            check.same("the rank on the empty ballot", hall.kindAt(1, c, true), 0);
            check.same("the approval on the empty ballot", hall.kindAt(1, c, false), 0);
            check.same("the rank on a short ballot", hall.kindAt(2, c, true), c == 4 ? 0 : 1);
            check.same("the approval on a short ballot", hall.kindAt(2, c, false), c == 4 ? 1 : 0);
        }
        check.refused(hall, "kindAt(3, 0, true)", INDEX, () -> hall.kindAt(3, 0, true));
        check.refused(hall, "kindAt(-1, 0, true)", INDEX, () -> hall.kindAt(-1, 0, true));
        check.refused(hall, "kindAt(0, 5, false)", INDEX, () -> hall.kindAt(0, 5, false));
        check.refused(hall, "kindAt(0, -1, false)", INDEX, () -> hall.kindAt(0, -1, false));
        check.promise(9);
        check.same("allBallots()", hall.allBallots(), 9);
        hall.takeBack(1, 3);
        check.same("allBallots()", hall.allBallots(), 6);
    }

    public static void main(String[] arguments) {
        newObject();
        candidates();
        lots();
        typing();
        kinds();
        errorsOfTexts();
        manyKinds();
        takingBack();
        asking();
        check.end();
    }
}
