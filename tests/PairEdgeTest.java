import java.util.NoSuchElementException;
import java.util.function.Function;
import java.util.function.Supplier;

/** The boundary cases of section 5 and of promises 25 to 31, sentence by sentence. */
public final class PairEdgeTest {
    private static final Class<IndexOutOfBoundsException> INDEX = IndexOutOfBoundsException.class;
    private static final Class<NoSuchElementException> ELEMENT = NoSuchElementException.class;
    private static final int MIN = Integer.MIN_VALUE;
    private static final int MAX = Integer.MAX_VALUE;
    private static final Check check = new Check("PairEdgeTest");

    private static void refused(Supplier<Ballothall> maker, String what, Class<? extends RuntimeException> due,
            Function<Ballothall, Object> call) {
        check.refused(maker, what, due, call);
    }

    private static Ballothall busy() {
        return Houses.busy("B>C");
    }

    private static Ballothall full() {
        return Houses.full("B>A");
    }

    private static String consensus(Ballothall hall, int size) {
        StringBuilder order = new StringBuilder();
        for (int i = 0; i < size; i++) {
            order.append(hall.consensusAt(i));
        }
        return order.toString();
    }

    private static void numbersOfCandidates() {
        for (int wrong : new int[] {-1, 4, 8, MIN, MAX}) {
            check.sentence(25, "Throws IndexOutOfBoundsException see section 1");
            refused(PairEdgeTest::busy, "ahead(" + wrong + ", 0)", INDEX, hall -> hall.ahead(wrong, 0));
            refused(PairEdgeTest::busy, "ahead(0, " + wrong + ")", INDEX, hall -> hall.ahead(0, wrong));
            refused(PairEdgeTest::busy, "ahead of itself: " + wrong, INDEX, hall -> hall.ahead(wrong, wrong));
            check.sentence(27, "Throws IndexOutOfBoundsException see section 1");
            refused(PairEdgeTest::busy, "strongestPath(" + wrong + ", 0)", INDEX, hall -> hall.strongestPath(wrong, 0));
            refused(PairEdgeTest::busy, "strongestPath(0, " + wrong + ")", INDEX, hall -> hall.strongestPath(0, wrong));
            refused(PairEdgeTest::busy, "a path to itself: " + wrong, INDEX, hall -> hall.strongestPath(wrong, wrong));
        }
        refused(PairEdgeTest::full, "ahead(8, 0)", INDEX, hall -> hall.ahead(8, 0));
        refused(PairEdgeTest::full, "strongestPath(0, 8)", INDEX, hall -> hall.strongestPath(0, 8));
        check.same("the last one of eight", full().ahead(0, 7) + " " + full().strongestPath(0, 7), "1000010 1000010");
    }

    private static void oneAndTheSame() {
        Ballothall circle = Houses.withBallots(3, "A>B>C", 4, "B>C>A", 3, "C>A>B", 2);
        for (int c = 0; c < 3; c++) {
            check.sentence(25, "0 for one and the same candidate");
            check.same("ahead of itself", circle.ahead(c, c), 0);
            check.sentence(27, "0 for one and the same candidate");
            check.same("a path to itself", circle.strongestPath(c, c), 0);
        }
        for (int c = 0; c < 8; c++) {
            check.same("of eight", full().ahead(c, c) + " " + full().strongestPath(c, c), "0 0");
        }
    }

    private static void rankedAhead() {
        check.sentence(25, "d(a, b) is the number of ballots that rank a ahead of b");
        Ballothall none = Check.withCandidates(2);
        check.same("without ballots", none.ahead(0, 1) + " " + none.ahead(1, 0), "0 0");
        Ballothall hall = Houses.withBallots(4, "A=B>C", 5, "", 7);
        check.same("equal ones", hall.ahead(0, 1) + " " + hall.ahead(1, 0), "0 0");
        check.same("another group", hall.ahead(0, 2) + " " + hall.ahead(2, 0), "5 0");
        check.same("the last group", hall.ahead(2, 3) + " " + hall.ahead(3, 2), "5 0");
        hall.takeBack(0, 5);
        check.same("a kind with the count 0", hall.ahead(0, 2), 0);
        check.same("a million", full().ahead(0, 1), 1000009);
    }

    private static void beatingAll() {
        check.sentence(26, "NONE if there is none (a single candidate does)");
        check.same("without candidates", new Ballothall().beatsAll(), -1);
        check.same("a single one", Check.withCandidates(1).beatsAll(), 0);
        check.same("a single one with ballots", Houses.withBallots(1, "A", 3, "", 2).beatsAll(), 0);
        check.same("two without ballots", Check.withCandidates(2).beatsAll(), -1);
        check.sentence(0, "a beats b if d(a, b) is greater than d(b, a)");
        Ballothall hall = Houses.withBallots(2, "A", 5, "B", 5);
        check.same("as many", hall.beatsAll(), -1);
        check.same("one more", Check.cast(hall, "B", 1) + " " + hall.beatsAll(), "1 1");
        check.same("equal ones do not count", Check.cast(hall, "A=B", 100) + " " + hall.beatsAll(), "2 1");
        check.same("the other one", Check.cast(hall, "A", 2) + " " + hall.beatsAll(), "0 0");
        hall.setLot(false, 1, 0);
        hall.setLot(false, 0, 9);
        hall.takeBack(0, 1);
        check.same("a lot decides nothing", hall.beatsAll(), -1);
        check.same("the last one of eight", Houses.withBallots(8, "H", 1).beatsAll(), 7);
    }

    /** 8 candidates, of whom each beats the next one by twice so many ballots, and is equal with all others. */
    private static Ballothall chain(int... by) {
        Ballothall hall = Check.withCandidates(8);
        for (int i = 0; i < 7; i++) {
            StringBuilder front = new StringBuilder().append((char) ('A' + i)).append('>').append((char) ('B' + i));
            StringBuilder back = new StringBuilder(front);
            for (int other = 0; other < 8; other++) {
                if (other != i && other != i + 1) {
                    front.append('>').append((char) ('A' + other));
                    back.insert(0, (char) ('A' + other) + ">");
                }
            }
            Check.cast(hall, front.toString(), by[i]);
            Check.cast(hall, back.toString(), by[i]);
        }
        return hall;
    }

    private static void strengths() {
        check.sentence(27, "The strength of a path of candidates, each of whom beats the next one, is the smallest d(x, y) of "
            + "neighbors x, y on it");
        // d(A, B) 5 : 4, d(B, C) 9 : 0, d(A, C) 5 : 4.
        Ballothall hall = Houses.withBallots(3, "A>B", 5, "B>C", 4);
        check.same("a single step", hall.strongestPath(0, 1) + " " + hall.strongestPath(1, 2), "5 9");
        check.same("two steps, or one", hall.strongestPath(0, 2), 5);
        // C beats A by 6 : 5 as well: from B to A by C, from C to B by A.
        Check.cast(hall, "C>A", 2);
        check.same("a circle", hall.strongestPath(0, 2) + " " + hall.strongestPath(1, 0) + " " + hall.strongestPath(2, 1),
            "7 6 6");
        hall.takeBack(2, 2);
        check.sentence(27, "strength 0 if there is no path");
        check.same("from one who beats nobody", hall.strongestPath(2, 0), 0);
        Ballothall tie = Houses.withBallots(3, "A", 5, "B", 5);
        check.same("equal ones", tie.strongestPath(0, 1) + " " + tie.strongestPath(1, 0), "0 0");
        check.same("each of them to the third one", tie.strongestPath(0, 2) + " " + tie.strongestPath(1, 2), "5 5");
        check.same("without ballots", Check.withCandidates(2).strongestPath(0, 1), 0);
        Ballothall chain = chain(4, 3, 2, 1, 2, 3, 4);
        check.same("seven steps", chain.strongestPath(0, 7) + " " + chain.strongestPath(7, 0), "20 0");
        check.same("three steps", chain.strongestPath(0, 3) + " " + chain.strongestPath(4, 7), "21 21");
        check.same("one step", chain.strongestPath(0, 1) + " " + chain.strongestPath(3, 4), "23 20");
    }

    private static void winnersByPaths() {
        check.sentence(28, "0 without candidates");
        check.same("pathWinners()", new Ballothall().pathWinners(), 0);
        check.sentence(28, "A candidate wins by strongest paths if no other candidate has a stronger path to them than they have "
            + "to the other.");
        for (int count = 1; count <= 8; count++) {
            check.same("all of " + count + " without ballots", Check.withCandidates(count).pathWinners(), (1 << count) - 1);
        }
        check.same("two equal ones", Houses.withBallots(3, "A", 5, "B", 5).pathWinners(), 3);
        check.same("one more", Houses.withBallots(3, "A", 5, "B", 6).pathWinners(), 2);
        check.same("a circle of equal strengths", Houses.withBallots(3, "A>B>C", 2, "B>C>A", 2, "C>A>B", 2).pathWinners(), 7);
        check.same("a circle with a weakest step", Houses.withBallots(3, "A>B>C", 3, "B>C>A", 2, "C>A>B", 2).pathWinners(),
            1);
        check.same("the last one of eight", Houses.withBallots(8, "H", 1).pathWinners(), 128);
    }

    private static void beatingSets() {
        check.sentence(29, "0 without candidates");
        check.same("beatingSet()", new Ballothall().beatingSet(), 0);
        check.sentence(29, "The beating set is the smallest set of candidates, not empty, of whom each beats each candidate outside.");
        for (int count = 1; count <= 8; count++) {
            check.same("all of " + count + " without ballots", Check.withCandidates(count).beatingSet(), (1 << count) - 1);
        }
        check.same("the last one", Houses.withBallots(8, "H", 1).beatingSet(), 128);
        check.same("the first one", Houses.withBallots(8, "A", 1).beatingSet(), 1);
        check.same("two equal ones", Houses.withBallots(3, "A", 5, "B", 5).beatingSet(), 3);
        check.same("all but one", Houses.withBallots(4, "A=B=C", 1).beatingSet(), 7);
        check.same("as many do not beat", Houses.withBallots(2, "A", 1, "B", 1).beatingSet(), 3);
        Ballothall circle = Houses.withBallots(4, "A>B>C", 2, "B>C>A", 2, "C>A>B", 2);
        check.same("a circle", circle.beatingSet(), 7);
        Check.cast(circle, "D", 6);
        check.same("with one that is equal to all", circle.beatingSet(), 15);
    }

    private static void placesOfConsensus() {
        check.sentence(30, "Throws NoSuchElementException if there is none");
        for (int index : new int[] {-1, 4, 8, MIN, MAX}) {
            refused(PairEdgeTest::busy, "consensusAt(" + index + ")", ELEMENT, hall -> hall.consensusAt(index));
        }
        check.same("the first and the last one", busy().consensusAt(0) + " " + busy().consensusAt(3), "0 3");
        refused(PairEdgeTest::full, "consensusAt(8)", ELEMENT, hall -> hall.consensusAt(8));
        refused(PairEdgeTest::full, "consensusAt(-1)", ELEMENT, hall -> hall.consensusAt(-1));
        refused(Ballothall::new, "consensusAt(0)", ELEMENT, hall -> hall.consensusAt(0));
        check.same("a single one", Check.withCandidates(1).consensusAt(0), 0);
        refused(() -> Check.withCandidates(1), "consensusAt(1)", ELEMENT, hall -> hall.consensusAt(1));
        check.sentence(30, "of several the first in lexicographic order of numbers");
        check.same("without ballots", consensus(Check.withCandidates(8), 8), "01234567");
        Ballothall lots = Check.withCandidates(3);
        lots.setLot(false, 0, 99);
        check.same("a lot decides nothing", consensus(lots, 3), "012");
        check.same("one pair alone", consensus(Houses.withBallots(4, "A=B=D>C", 1), 4), "0132");
        check.same("a circle of equal ones", consensus(Houses.withBallots(3, "A>B>C", 1, "B>C>A", 1, "C>A>B", 1), 3), "012");
        check.same("another circle", consensus(Houses.withBallots(3, "A>C>B", 1, "C>B>A", 1, "B>A>C", 1), 3), "021");
        check.same("one ballot", consensus(Houses.withBallots(8, "H>G>F>E>D>C>B>A", 1), 8), "76543210");
    }

    private static void distances() {
        check.sentence(31, "0 without candidates");
        check.same("consensusDistance()", new Ballothall().consensusDistance(), 0);
        check.same("with empty ballots", Houses.withBallots(0, "", 5).consensusDistance(), 0);
        check.sentence(31, "The distance of an order of all candidates is the sum of d(b, a) over all pairs with a ahead of b");
        check.same("a single one", Houses.withBallots(1, "A", 5).consensusDistance(), 0);
        check.same("without ballots", Check.withCandidates(8).consensusDistance(), 0);
        check.same("two", Houses.withBallots(2, "A", 5, "B", 4).consensusDistance(), 4);
        check.same("equal ones", Houses.withBallots(2, "A", 5, "B", 5, "A=B", 9).consensusDistance(), 5);
        Ballothall greatest = Check.withCandidates(8);
        for (int i = 0; i < 20; i++) {
            Check.cast(greatest, i < 10 ? "A>B>C>D>E>F>G>H" : "H>G>F>E>D>C>B>A", 100000);
        }
        check.same("28 pairs of a million", greatest.consensusDistance(), 28000000L);
        check.same("the first one of two orders", consensus(greatest, 8), "01234567");
    }

    public static void main(String[] arguments) {
        numbersOfCandidates();
        oneAndTheSame();
        rankedAhead();
        beatingAll();
        strengths();
        winnersByPaths();
        beatingSets();
        placesOfConsensus();
        distances();
        check.end();
    }
}
