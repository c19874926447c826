import java.util.NoSuchElementException;
import java.util.function.Function;
import java.util.function.Supplier;

/** The boundary cases of the sections 1 and 2 and of promises 1 to 9, sentence by sentence. */
public final class BallotEdgeTest {
    private static final Class<IndexOutOfBoundsException> INDEX = IndexOutOfBoundsException.class;
    private static final Class<IllegalArgumentException> ARGUMENT = IllegalArgumentException.class;
    private static final Class<IllegalStateException> STATE = IllegalStateException.class;
    private static final Class<NoSuchElementException> ELEMENT = NoSuchElementException.class;
    private static final int MIN = Integer.MIN_VALUE;
    private static final int MAX = Integer.MAX_VALUE;
    private static final Check check = new Check("BallotEdgeTest");

    private static void refused(Supplier<Ballothall> maker, String what, Class<? extends RuntimeException> due,
            Function<Ballothall, Object> call) {
        check.refused(maker, what, due, call);
    }

    private static Ballothall busy() {
        return Houses.busy("B>C");
    }

    private static Ballothall full() {
        return Houses.full("B>A");
    }

    private static int errorOf(int candidates, String text) {
        return Check.cast(Check.withCandidates(candidates), text, 1);
    }

    // ---- promise 1

    private static void newHouseHasNothing() {
        check.sentence(1, "Creates a house without candidates, ballots, lists, wards and members");
        refused(Ballothall::new, "setLot(false, 0, 0)", INDEX, hall -> hall.setLot(false, 0, 0));
        refused(Ballothall::new, "setLot(true, 0, 0)", INDEX, hall -> hall.setLot(true, 0, 0));
        refused(Ballothall::new, "takeBack(0, 1)", INDEX, hall -> hall.takeBack(0, 1));
        refused(Ballothall::new, "countOf(0)", INDEX, hall -> hall.countOf(0));
        refused(Ballothall::new, "kindAt(0, 0, true)", INDEX, hall -> hall.kindAt(0, 0, true));
        refused(Ballothall::new, "setVotes(0, 0)", INDEX, hall -> hall.setVotes(0, 0));
        refused(Ballothall::new, "ally(0, 0)", INDEX, hall -> hall.ally(0, 0));
        refused(Ballothall::new, "seatsOf(0)", INDEX, hall -> hall.seatsOf(0));
        refused(Ballothall::new, "seatAt(0)", ELEMENT, hall -> hall.seatAt(0));
        refused(Ballothall::new, "transferable(1)", STATE, hall -> hall.transferable(1));
        refused(Ballothall::new, "electedAt(0)", ELEMENT, hall -> hall.electedAt(0));
        refused(Ballothall::new, "excludedAt(0)", ELEMENT, hall -> hall.excludedAt(0));
        refused(Ballothall::new, "writePile(0, 0)", INDEX, hall -> hall.writePile(0, 0));
        refused(Ballothall::new, "writePile(0, NONE)", ELEMENT, hall -> hall.writePile(0, Ballothall.NONE));
        refused(Ballothall::new, "solidQuotas(1)", ARGUMENT, hall -> hall.solidQuotas(1));
        refused(Ballothall::new, "ahead(0, 0)", INDEX, hall -> hall.ahead(0, 0));
        refused(Ballothall::new, "strongestPath(0, 0)", INDEX, hall -> hall.strongestPath(0, 0));
        refused(Ballothall::new, "consensusAt(0)", ELEMENT, hall -> hall.consensusAt(0));
        refused(Ballothall::new, "votesFor(0, 0)", INDEX, hall -> hall.votesFor(0, 0));
        refused(Ballothall::new, "runoffOut(0)", ELEMENT, hall -> hall.runoffOut(0));
        refused(Ballothall::new, "gainAt(0, 0)", ELEMENT, hall -> hall.gainAt(0, 0));
        refused(Ballothall::new, "proportionalAt(0)", ELEMENT, hall -> hall.proportionalAt(0));
        refused(Ballothall::new, "greatestDistrict(1)", ARGUMENT, hall -> hall.greatestDistrict(1));
        refused(Ballothall::new, "districtEnd(1, 0)", ARGUMENT, hall -> hall.districtEnd(1, 0));
        refused(Ballothall::new, "districtsWon(1, 0)", ARGUMENT, hall -> hall.districtsWon(1, 0));
        refused(Ballothall::new, "wasted(1, 0)", ARGUMENT, hall -> hall.wasted(1, 0));
        refused(Ballothall::new, "swings(0)", INDEX, hall -> hall.swings(0));
        refused(Ballothall::new, "ordersTurned(0)", INDEX, hall -> hall.ordersTurned(0));
        refused(Ballothall::new, "meanRank(0)", INDEX, hall -> hall.meanRank(0));
        refused(Ballothall::new, "seatShare(0)", INDEX, hall -> hall.seatShare(0));
        Ballothall hall = new Ballothall();
        check.same("the numbers", hall.allBallots() + " " + hall.quota() + " " + hall.steps() + " " + hall.outputByte(0)
            + " " + hall.beatsAll() + " " + hall.pathWinners() + " " + hall.beatingSet() + " " + hall.consensusDistance()
            + " " + hall.safeAfter() + " " + hall.lossAt(60) + " " + hall.checksum() + " " + hall.errors() + " "
            + hall.undo(), "0 -1 0 -1 -1 0 0 0 -1 -1 0 0 -1");
    }

    private static void newHouseHasQuotaOne() {
        check.sentence(1, "with the quota 1 of the council");
        check.same("setQuota(7)", new Ballothall().setQuota(7), 1);
        Ballothall hall = new Ballothall();
        hall.member(0);
        hall.member(1);
        check.same("a weight of 0 and one of 1", hall.swings(0) + " " + hall.swings(1), "0 2");
    }

    private static void noneIsMinusOne() {
        check.sentence(0, "NONE = -1: There is none.");
        check.same("NONE", Ballothall.NONE, -1);
    }

    // ---- promise 2 and section 1

    private static void eightCandidates() {
        check.sentence(2, "Throws IllegalStateException if there are 8");
        Ballothall hall = new Ballothall();
        for (int i = 0; i < 8; i++) {
            check.same("candidate()", hall.candidate(), i);
        }
        refused(() -> Check.withCandidates(8), "a ninth", STATE, Ballothall::candidate);
        refused(BallotEdgeTest::full, "a ninth in a full house", STATE, Ballothall::candidate);
        Ballothall again = Check.withCandidates(8);
        again.undo();
        check.same("the eighth again", again.candidate(), 7);
        check.same("after a refused one", Check.orThrown(again::candidate) + again.undo() + again.candidate(),
            "IllegalStateException77");
    }

    private static void lettersInOrder() {
        check.sentence(0, "Candidates have the letters A, B and so on in this order.");
        for (int count = 1; count <= 8; count++) {
            String last = "" + (char) ('A' + count - 1);
            String next = "" + (char) ('A' + count);
            check.same("the letter of the last of " + count, errorOf(count, last), 0);
            check.same("the letter of nobody of " + count, errorOf(count, next), -3);
            Ballothall hall = Houses.withBallots(count, last, 1);
            for (int c = 0; c < count; c++) {
                check.same("who it is", hall.kindAt(0, c, false), c == count - 1 ? 1 : 0);
            }
        }
        check.same("the sign ahead of A", errorOf(8, "@"), -3);
        check.same("a small letter", errorOf(8, "a"), -3);
    }

    private static void firstLots() {
        check.sentence(0, "each candidate and each list has a lot, a number from 0 to 99; at first it is its own number");
        Ballothall hall = Houses.full("");
        for (int i = 0; i < 7; i++) {
            check.same("a candidate's", hall.setLot(false, i, 99), i);
            check.same("a list's", hall.setLot(true, i, 99), i);
        }
        Ballothall again = Check.withCandidates(1);
        again.setLot(false, 0, 5);
        again.undo();
        again.undo();
        again.candidate();
        check.same("of one that comes again", again.setLot(false, 0, 0), 0);
    }

    private static void rangeOfLots() {
        check.sentence(3, "lot: 0 to 99");
        for (boolean isList : new boolean[] {false, true}) {
            Ballothall hall = busy();
            check.same("the greatest", hall.setLot(isList, 0, 99), 0);
            check.same("the least", hall.setLot(isList, 0, 0), 99);
            check.same("the one before", hall.setLot(isList, 0, 1), 0);
            for (int lot : new int[] {-1, 100, MIN, MAX}) {
                refused(BallotEdgeTest::busy, "setLot(" + isList + ", 0, " + lot + ")", ARGUMENT,
                    house -> house.setLot(isList, 0, lot));
            }
        }
    }

    private static void numbersOfLots() {
        check.sentence(3, "Throws IndexOutOfBoundsException see section 1");
        for (int number : new int[] {-1, 4, 8, MIN, MAX}) {
            refused(BallotEdgeTest::busy, "setLot(false, " + number + ", 0)", INDEX, hall -> hall.setLot(false, number, 0));
        }
        for (int number : new int[] {-1, 3, 8, MIN, MAX}) {
            refused(BallotEdgeTest::busy, "setLot(true, " + number + ", 0)", INDEX, hall -> hall.setLot(true, number, 0));
        }
        for (int number : new int[] {-1, 8, MAX}) {
            refused(BallotEdgeTest::full, "setLot(false, " + number + ", 0)", INDEX, hall -> hall.setLot(false, number, 0));
            refused(BallotEdgeTest::full, "setLot(true, " + number + ", 0)", INDEX, hall -> hall.setLot(true, number, 0));
        }
        check.same("the last candidate of eight", full().setLot(false, 7, 3), 0);
        check.same("the last list of eight", full().setLot(true, 7, 3), 99);
        check.sentence(3, "If several exceptions apply to a call, the one that is listed first is thrown");
        refused(BallotEdgeTest::busy, "setLot(false, 4, 100)", INDEX, hall -> hall.setLot(false, 4, 100));
        refused(BallotEdgeTest::busy, "setLot(true, -1, -1)", INDEX, hall -> hall.setLot(true, -1, -1));
    }

    private static void lotsOfCandidatesAndLists() {
        check.sentence(3, "isList: true for a list, false for a candidate");
        Ballothall hall = busy();
        check.same("a candidate's lot", hall.setLot(false, 0, 50), 0);
        check.same("the list's is another one", hall.setLot(true, 0, 60), 0);
        check.same("and stays", hall.setLot(false, 0, 0) + " " + hall.setLot(true, 0, 0), "50 60");
    }

    // ---- promise 4

    private static void textOfThirtyBytes() {
        check.sentence(4, "Throws IllegalStateException if it would be greater than 30");
        Ballothall hall = new Ballothall();
        for (int length = 1; length <= 30; length++) {
            check.same("one byte more", hall.type('A'), length);
        }
        check.same("nothing more", hall.type(0), 30);
        check.same("one more", Check.orThrown(() -> hall.type(1)), "IllegalStateException");
        check.same("eight at once", Check.type(new Ballothall(), "12345678"), 8);
        check.same("22 and 8", Check.type(new Ballothall(), "123456781234567812345612345678"), 30);
        String thirty = "A>B=C|D" + "A>B=C|D" + "A>B=C|D" + "A>B=C|D" + "A>";
        refused(() -> Houses.busy(thirty), "31 bytes", STATE, house -> house.type('B'));
        refused(() -> Houses.busy(thirty), "38 bytes", STATE, house -> house.type(-1L));
        refused(() -> Houses.busy(thirty.substring(0, 29)), "31 bytes, of which one has room", STATE,
            house -> house.type(0x4142L));
        refused(() -> Houses.busy(thirty.substring(0, 23)), "31 bytes, of which seven have room", STATE,
            house -> house.type(0x4142434445464748L));
        refused(() -> Houses.full(thirty), "31 bytes in a full house", STATE, house -> house.type('B'));
        check.same("two bytes and zeros have room", Check.orThrown(() -> {
            Ballothall house = Houses.busy(thirty.substring(0, 28));
            return house.type(0x4100000000000042L);
        }), 30);
    }

    private static void bytesOfNumbers() {
        check.sentence(4, "the bytes of a number that are not 0, the highest one first");
        check.same("no byte", new Ballothall().type(0), 0);
        check.same("all bytes", new Ballothall().type(-1L), 8);
        check.same("the highest bit", new Ballothall().type(Long.MIN_VALUE), 1);
        check.same("all but the highest bit", new Ballothall().type(Long.MAX_VALUE), 8);
        for (int shift = 0; shift < 64; shift += 8) {
            Ballothall hall = Check.withCandidates(1);
            check.same("a single byte, moved by " + shift, hall.type(0x41L << shift), 1);
            check.same("it is an A", hall.ballots(1), 0);
        }
        Ballothall order = Check.withCandidates(4);
        check.same("seven bytes and a zero", order.type(0x413E42003E433E44L), 7);
        order.ballots(1);
        for (int c = 0; c < 4; c++) {
            check.same("in this order", order.kindAt(0, c, true), c);
        }
        Ballothall zeros = Check.withCandidates(2);
        check.same("zeros between", zeros.type(0x0041003E00004200L), 3);
        check.same("are no bytes", zeros.ballots(1) + " " + zeros.kindAt(0, 1, true), "0 1");
    }

    private static void textStaysBetweenCalls() {
        check.sentence(4, "Appends bytes to the text buffer");
        Ballothall hall = Check.withCandidates(3);
        hall.type('A');
        hall.candidate();
        hall.transferable(1);
        hall.undo();
        hall.type('>');
        hall.list(5);
        check.same("the text", hall.type('D'), 3);
        hall.undo();
        check.same("is read as a whole", hall.ballots(1), 0);
        check.same("by its letters", hall.kindAt(0, 3, true), 1);
    }

    // ---- section 2: texts

    private static void barOnce() {
        check.sentence(0, "the bar may occur at most once");
        check.same("once", errorOf(3, "A|B>C"), 0);
        check.same("twice", errorOf(3, "A|B|C"), -3 - 3);
        check.same("twice, far apart", errorOf(5, "A|B>C=D|E"), -3 - 7);
        check.same("twice in a row", errorOf(3, "A||B"), -3 - 2);
        check.same("behind the first group", errorOf(3, "A>B|C"), 0);
    }

    private static void lettersOnce() {
        check.sentence(0, "No letter may occur twice, and each must be that of a candidate");
        check.same("in one group", errorOf(2, "A=A"), -3 - 2);
        check.same("in two groups", errorOf(2, "A>A"), -3 - 2);
        check.same("on both sides of the bar", errorOf(2, "A>B|A"), -3 - 4);
        check.same("the eighth letter twice", errorOf(8, "A>B>C>D>E>F>G>H=H"), -3 - 16);
        check.same("all letters once", errorOf(8, "A>B>C>D>E>F>G>H"), 0);
        check.same("all letters in one group", errorOf(8, "H=G=F=E=D=C=B=A"), 0);
        check.same("a letter of nobody", errorOf(2, "A>C"), -3 - 2);
        check.same("any letter without candidates", errorOf(0, "A"), -3);
    }

    private static void noBlanks() {
        check.sentence(0, "there are no blanks");
        check.same("a blank alone", errorOf(2, " "), -3);
        check.same("a blank ahead", errorOf(2, " A"), -3);
        check.same("a blank between", errorOf(2, "A >B"), -3 - 1);
        check.same("a blank behind a sign", errorOf(2, "A> B"), -3 - 2);
        check.same("a blank at the end", errorOf(2, "A>B "), -3 - 3);
    }

    private static void errorIsFirstByte() {
        check.sentence(0, "The error of a text is the index of the first byte that cannot stand where it stands");
        for (char sign : new char[] {'>', '|', '=', 'C', 'a', ' ', 1, 127, 128, 255}) {
            check.same("the sign " + (int) sign + " at first", errorOf(2, "" + sign), -3);
            check.same("the sign " + (int) sign + " behind a sign", errorOf(2, "A>" + sign), -3 - 2);
            boolean isSign = sign == '>' || sign == '|' || sign == '=';
            check.same("the sign " + (int) sign + " behind a letter", errorOf(2, "A" + sign + "B"), isSign ? 0 : -3 - 1);
        }
        check.same("a letter behind a letter", errorOf(2, "AB"), -3 - 1);
        check.same("the first one of two errors", errorOf(2, "A>?>?"), -3 - 2);
        check.same("an error, though the text ends too early as well", errorOf(2, "A>A>"), -3 - 2);
        String full = "A>B>C>D>E>F>G>H>A>B>C>D>E>F>G>";
        check.same("in a text of 30 bytes", errorOf(8, full), -3 - 16);
        Ballothall hall = Houses.busy("A|B=C=DB=A>C>D");
        check.same("one error more", hall.ballots(1), -3 - 7);
    }

    private static void errorIsLength() {
        check.sentence(0, "or the length of the text if it ends too early");
        String[] early = {"A>", "A|", "A=", "A>B>", "A>B|", "A|B>", "A=B=", "A>B=C|"};
        for (String text : early) {
            check.same(text, errorOf(4, text), -3 - text.length());
        }
        check.same("behind all eight letters", errorOf(8, "A>B>C>D>E>F>G>H="), -3 - 16);
    }

    private static void emptyText() {
        check.sentence(0, "The empty text is a ballot without a rank, which approves nobody.");
        for (int count : new int[] {0, 1, 8}) {
            Ballothall hall = Houses.withBallots(count, "", 3);
            check.same("its count", hall.countOf(0), 3);
            for (int c = 0; c < count; c++) {
                check.same("the only group is the last one", hall.kindAt(0, c, true), 0);
                check.same("nobody is approved", hall.kindAt(0, c, false), 0);
                check.same("nobody is first", hall.votesFor(0, c), 0);
            }
        }
    }

    private static void lastGroup() {
        check.sentence(0, "the candidates that do not occur are ranked behind all others, all equal");
        Ballothall hall = Houses.withBallots(8, "H>G", 1, "H=G", 1, "A>B>C>D>E>F>G", 1, "A=B=C=D=E=F=G", 1);
        check.same("behind two groups", hall.kindAt(0, 0, true) + " " + hall.kindAt(0, 5, true), "2 2");
        check.same("behind one group", hall.kindAt(1, 0, true) + " " + hall.kindAt(1, 5, true), "1 1");
        check.same("a last group of one", hall.kindAt(2, 7, true), 7);
        check.same("behind one group of seven", hall.kindAt(3, 7, true), 1);
        check.same("equal", hall.ahead(2, 1) + " " + hall.ahead(1, 2), "0 1");
    }

    private static void approvals() {
        check.sentence(0, "the candidates ahead of the bar are approved; without a bar those of the first group are");
        String[] texts = {"A>B>C", "A|B>C", "A>B|C", "A=B>C", "A=B|C", "A>B=C", "A|B=C"};
        String[] approved = {"1000", "1000", "1100", "1100", "1100", "1000", "1000"};
        for (int i = 0; i < texts.length; i++) {
            Ballothall hall = Houses.withBallots(4, texts[i], 1);
            check.same(texts[i], "" + hall.kindAt(0, 0, false) + hall.kindAt(0, 1, false) + hall.kindAt(0, 2, false)
                + hall.kindAt(0, 3, false), approved[i]);
        }
        check.sentence(0, "The bar counts as \">\"");
        Ballothall hall = Houses.withBallots(3, "A|B=C", 1, "A=B|C", 1);
        check.same("ranks behind it", hall.kindAt(0, 1, true) + " " + hall.kindAt(0, 2, true), "1 1");
        check.same("a rank behind a group", hall.kindAt(1, 2, true), 1);
    }

    private static void sameKinds() {
        check.sentence(0, "Two ballots are the same kind if they have the same written groups in the same order");
        Ballothall hall = Houses.withBallots(3, "A=B>C", 1);
        check.same("any order of letters", Check.cast(hall, "B=A>C", 1), 0);
        check.same("another order of groups", Check.cast(hall, "C>A=B", 1), 1);
        check.same("a group that is not written", Check.cast(hall, "A=B", 1), 2);
        check.same("two groups", Check.cast(hall, "A>B>C", 1), 3);
        check.same("the same rank, without the last group", Check.cast(hall, "A>B", 1), 4);
        check.sentence(0, "and approve the same candidates");
        check.same("a bar that changes nothing", Check.cast(hall, "A=B|C", 1), 0);
        check.same("a bar that approves more", Check.cast(hall, "A>B|C", 1), 5);
        check.same("a bar behind the first group", Check.cast(hall, "A|B>C", 1), 3);
        check.same("the empty text", Check.cast(hall, "", 1) + " " + Check.cast(hall, "", 1), "6 6");
        check.same("one group of all", Check.cast(hall, "A=B=C", 1), 7);
        check.same("their counts", "" + hall.countOf(0) + hall.countOf(1) + hall.countOf(2) + hall.countOf(3)
            + hall.countOf(4) + hall.countOf(5) + hall.countOf(6) + hall.countOf(7), "31121121");
    }

    private static void candidatesLater() {
        check.sentence(0, "Candidates can be added at any time; on ballots that exist they are in the last group.");
        Ballothall hall = Houses.withBallots(2, "A>B", 2, "A=B", 3, "", 4, "B", 5);
        check.same("a letter that is not there yet", Check.cast(hall, "C", 1), -3);
        for (int c = 2; c < 8; c++) {
            hall.candidate();
            check.same("behind two", hall.kindAt(0, c, true), 2);
            check.same("behind a group", hall.kindAt(1, c, true), 1);
            check.same("in the only group", hall.kindAt(2, c, true), 0);
            check.same("with another one", hall.kindAt(3, c, true) + " " + hall.kindAt(3, 0, true), "1 1");
            check.same("not approved", hall.votesFor(4, c), 0);
        }
        check.same("a kind that was there", Check.cast(hall, "A>B", 1), 0);
        check.same("another kind", Check.cast(hall, "A>B>C", 1), 4);
    }

    private static void readingEmpties() {
        check.sentence(0, "Calls that read the text empty it, unless they throw an exception.");
        Ballothall hall = busy();
        hall.ballots(1);
        check.same("after ballots()", hall.type(0), 0);
        Check.type(hall, "A>");
        hall.ballots(1);
        check.same("after an error of ballots()", hall.type(0), 0);
        Check.type(hall, "A");
        hall.winnerWith(0, 0);
        check.same("after winnerWith()", hall.type(0), 0);
        Check.type(hall, "A>");
        hall.winnerWith(0, 0);
        check.same("after an error of winnerWith()", hall.type(0), 0);
        Check.type(hall, "B>C");
        check.same("refused", Check.orThrown(() -> hall.ballots(0)) + Check.orThrown(() -> hall.winnerWith(5, 0)),
            "IllegalArgumentExceptionIllegalArgumentException");
        check.same("the length then", hall.type(0), 3);
        Ballothall house = Houses.full("H>G");
        check.same("refused", Check.orThrown(() -> house.ballots(1)), "IllegalStateException");
        check.same("the length then", house.type(0), 3);
    }

    // ---- promise 5

    private static void rangeOfBallots() {
        check.sentence(5, "count: 1 to 100000");
        Ballothall hall = busy();
        check.same("the least", hall.ballots(1) + " " + hall.countOf(3), "3 1");
        check.same("the greatest", Check.cast(hall, "B>C", 100000) + " " + hall.countOf(3), "3 100001");
        for (int count : new int[] {0, -1, 100001, MIN, MAX}) {
            refused(BallotEdgeTest::busy, "ballots(" + count + ")", ARGUMENT, house -> house.ballots(count));
            refused(() -> Houses.busy("A>"), "ballots(" + count + ") with an error", ARGUMENT,
                house -> house.ballots(count));
        }
    }

    private static void thirtyKinds() {
        check.sentence(5, "Throws IllegalStateException if it would be a 31st kind");
        Ballothall hall = Check.withCandidates(8);
        for (int kind = 0; kind < 30; kind++) {
            check.same("a new kind", Check.cast(hall, Houses.kindText(kind), 1), kind);
        }
        check.same("the 30th kind again", Check.cast(hall, Houses.kindText(29), 5), 29);
        check.same("its count", hall.countOf(29), 6);
        refused(() -> Houses.full(Houses.kindText(30)), "a 31st kind", STATE, house -> house.ballots(1));
        refused(() -> Houses.full(""), "the empty text as a 31st kind", STATE, house -> house.ballots(100000));
        check.same("an error is no kind", Check.cast(hall, "A>A", 1), -3 - 2);
        hall.takeBack(0, 1);
        Check.type(hall, "H");
        check.same("a kind without ballots is a kind", Check.orThrown(() -> hall.ballots(1)), "IllegalStateException");
        hall.undo();
        check.same("after undo of takeBack()", Check.orThrown(() -> hall.ballots(1)), "IllegalStateException");
        hall.undo();
        hall.undo();
        check.same("the 30th kind that is undone makes room", hall.ballots(1), 29);
    }

    private static void millionBallots() {
        check.sentence(5, "or the kind would have more than 1000000 ballots");
        Supplier<Ballothall> nearly = () -> {
            Ballothall hall = Houses.withBallots(2, "A", 1);
            for (int i = 0; i < 9; i++) {
                Check.cast(hall, "A", 100000);
            }
            Check.cast(hall, "B", 2);
            Check.type(hall, "A");
            return hall;
        };
        refused(nearly, "1000001", STATE, hall -> hall.ballots(100000));
        check.same("1000000", nearly.get().ballots(99999), 0);
        Ballothall hall = nearly.get();
        hall.ballots(99999);
        check.same("its count", hall.countOf(0) + " " + hall.allBallots(), "1000000 1000002");
        refused(() -> Houses.full("A>B"), "one more than a million", STATE, house -> house.ballots(1));
        check.same("of another kind", Check.cast(hall, "B", 100000), 1);
        hall.takeBack(0, 1);
        check.same("one that was taken back", Check.cast(hall, "A", 1) + " " + hall.countOf(0), "0 1000000");
        check.same("as a bar that changes nothing", Check.orThrown(() -> Check.cast(hall, "A|B", 1)), "2");
    }

    private static void orderOfBallotsExceptions() {
        check.sentence(5, "If several exceptions apply to a call, the one that is listed first is thrown");
        refused(() -> Houses.full("H>G"), "a wrong count of a 31st kind", ARGUMENT, hall -> hall.ballots(0));
        refused(() -> Houses.full("A>B"), "a wrong count beyond a million", ARGUMENT, hall -> hall.ballots(100001));
        check.same("an error in the text of a full house", Houses.full("H>G>G").ballots(1), -3 - 4);
    }

    private static void ballotsAnswer() {
        check.sentence(5, "Returns the number of the kind; -3 - error for a text with an error.");
        Ballothall hall = busy();
        check.same("the error 0", Check.cast(new Ballothall(), "x", 1), -3);
        check.same("a new kind", hall.ballots(7), 3);
        check.same("a kind that is there", Check.cast(hall, "A>B>C", 7) + " " + hall.countOf(0), "0 46");
        check.same("an error adds nothing", Check.cast(hall, "A>B>C>", 7) + " " + hall.allBallots(), "-9 108");
        check.same("and is no change", hall.undo() + hall.allBallots(), 19 + 101);
    }

    // ---- promise 6

    private static void rangeOfTakeBack() {
        check.sentence(6, "count: 1 to its count");
        Ballothall hall = busy();
        check.same("the least", hall.takeBack(2, 1), 19);
        check.same("the greatest", hall.takeBack(2, 19), 0);
        for (int count : new int[] {0, -1, 36, MIN, MAX}) {
            refused(BallotEdgeTest::busy, "takeBack(1, " + count + ")", ARGUMENT, house -> house.takeBack(1, count));
        }
        refused(BallotEdgeTest::full, "takeBack(0, 1000001)", ARGUMENT, house -> house.takeBack(0, 1000001));
        check.same("a million", full().takeBack(0, 1000000), 0);
        for (int kind : new int[] {-1, 3, 30, MIN, MAX}) {
            refused(BallotEdgeTest::busy, "takeBack(" + kind + ", 1)", INDEX, house -> house.takeBack(kind, 1));
            refused(BallotEdgeTest::busy, "takeBack(" + kind + ", 0)", INDEX, house -> house.takeBack(kind, 0));
        }
        refused(BallotEdgeTest::full, "takeBack(30, 0)", INDEX, house -> house.takeBack(30, 0));
        check.same("the 30th kind", full().takeBack(29, 1), 0);
    }

    private static void kindStays() {
        check.sentence(6, "the kind stays, also with the count 0");
        Supplier<Ballothall> emptied = () -> {
            Ballothall hall = busy();
            hall.takeBack(1, 35);
            return hall;
        };
        Ballothall hall = emptied.get();
        check.same("its count", hall.countOf(1), 0);
        check.same("its ranks", hall.kindAt(1, 0, true) + " " + hall.kindAt(1, 1, false), "1 1");
        check.same("the next one", hall.countOf(2), 20);
        refused(emptied, "one of none", ARGUMENT, house -> house.takeBack(1, 1));
        refused(emptied, "none of none", ARGUMENT, house -> house.takeBack(1, 0));
        Check.cast(hall, "", 1);
        check.same("more of it", Check.cast(hall, "C=B|A", 4) + " " + hall.countOf(1), "1 4");
    }

    // ---- promises 7 to 9

    private static void numbersOfKinds() {
        check.sentence(7, "Throws IndexOutOfBoundsException see section 1");
        for (int kind : new int[] {-1, 3, 30, MIN, MAX}) {
            refused(BallotEdgeTest::busy, "countOf(" + kind + ")", INDEX, hall -> hall.countOf(kind));
            refused(BallotEdgeTest::busy, "kindAt(" + kind + ", 0, true)", INDEX, hall -> hall.kindAt(kind, 0, true));
        }
        check.same("the last one", busy().countOf(2), 20);
        refused(BallotEdgeTest::full, "countOf(30)", INDEX, hall -> hall.countOf(30));
        check.same("the 30th", full().countOf(29), 1);
        refused(() -> {
            Ballothall hall = busy();
            hall.ballots(1);
            hall.undo();
            return hall;
        }, "a kind that was undone", INDEX, hall -> hall.countOf(3));
        check.sentence(8, "Throws IndexOutOfBoundsException see section 1");
        for (int candidate : new int[] {-1, 4, 8, MIN, MAX}) {
            refused(BallotEdgeTest::busy, "kindAt(0, " + candidate + ", true)", INDEX,
                hall -> hall.kindAt(0, candidate, true));
            refused(BallotEdgeTest::busy, "kindAt(0, " + candidate + ", false)", INDEX,
                hall -> hall.kindAt(0, candidate, false));
        }
        refused(BallotEdgeTest::full, "kindAt(30, 0, true)", INDEX, hall -> hall.kindAt(30, 0, true));
        refused(BallotEdgeTest::full, "kindAt(29, 8, true)", INDEX, hall -> hall.kindAt(29, 8, true));
        check.same("the last kind and candidate", full().kindAt(29, 7, true), 2);
    }

    private static void ranksOfKinds() {
        check.sentence(8, "Returns the number of the group, from 0, of the last group as well");
        Ballothall hall = Houses.withBallots(8, "A>B>C>D>E>F>G>H", 1, "H=G=F=E=D=C=B=A", 1, "H", 1, "B=C>D=E|F", 1);
        for (int c = 0; c < 8; c++) {
            check.same("eight groups", hall.kindAt(0, c, true), c);
            check.same("one group", hall.kindAt(1, c, true), 0);
            check.same("one letter", hall.kindAt(2, c, true), c == 7 ? 0 : 1);
        }
        check.same("groups of two", "" + hall.kindAt(3, 2, true) + hall.kindAt(3, 4, true) + hall.kindAt(3, 5, true)
            + hall.kindAt(3, 0, true) + hall.kindAt(3, 7, true), "01233");
        check.same("their approvals", "" + hall.kindAt(3, 2, false) + hall.kindAt(3, 4, false) + hall.kindAt(3, 5, false)
            + hall.kindAt(3, 0, false), "1100");
    }

    private static void sumOfBallots() {
        check.sentence(9, "Returns the sum of all counts.");
        check.same("none", new Ballothall().allBallots(), 0);
        check.same("one", Houses.withBallots(0, "", 1).allBallots(), 1);
        check.same("all kinds", full().allBallots(), 1000029);
        Ballothall hall = full();
        hall.takeBack(0, 1000000);
        hall.takeBack(29, 1);
        check.same("taken back", hall.allBallots(), 28);
        Ballothall greatest = Check.withCandidates(8);
        for (int i = 0; i < 240; i++) {
            Check.cast(greatest, Houses.kindText(i % 24), 100000);
        }
        check.same("24 kinds of a million", greatest.allBallots(), 24000000);
    }

    public static void main(String[] arguments) {
        newHouseHasNothing();
        newHouseHasQuotaOne();
        noneIsMinusOne();
        eightCandidates();
        lettersInOrder();
        firstLots();
        rangeOfLots();
        numbersOfLots();
        lotsOfCandidatesAndLists();
        textOfThirtyBytes();
        bytesOfNumbers();
        textStaysBetweenCalls();
        barOnce();
        lettersOnce();
        noBlanks();
        errorIsFirstByte();
        errorIsLength();
        emptyText();
        lastGroup();
        approvals();
        sameKinds();
        candidatesLater();
        readingEmpties();
        rangeOfBallots();
        thirtyKinds();
        millionBallots();
        orderOfBallotsExceptions();
        ballotsAnswer();
        rangeOfTakeBack();
        kindStays();
        numbersOfKinds();
        ranksOfKinds();
        sumOfBallots();
        check.end();
    }
}
