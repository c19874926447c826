import java.util.NoSuchElementException;

/** Promises 25 to 31: pairs of candidates. */
public final class PairTest {
    private static final Class<IndexOutOfBoundsException> INDEX = IndexOutOfBoundsException.class;
    private static final Class<NoSuchElementException> ELEMENT = NoSuchElementException.class;
    private static final Check check = new Check("PairTest");

    private static String consensus(Ballothall hall, int size) {
        StringBuilder order = new StringBuilder();
        for (int i = 0; i < size; i++) {
            order.append(hall.consensusAt(i));
        }
        return order.toString();
    }

    /** A beats B by 6 : 3, B beats C by 7 : 2, C beats A by 5 : 4. */
    private static Ballothall circle() {
        Ballothall hall = Check.withCandidates(3);
        Check.cast(hall, "A>B>C", 4);
        Check.cast(hall, "B>C>A", 3);
        Check.cast(hall, "C>A>B", 2);
        return hall;
    }

    private static void pairs() {
        check.promise(25);
        Ballothall hall = circle();
        int[][] due = {{0, 6, 4}, {3, 0, 7}, {5, 2, 0}};
        for (int a = 0; a < 3; a++) {
            for (int b = 0; b < 3; b++) {
                check.same("ahead(" + a + ", " + b + ")", hall.ahead(a, b), due[a][b]);
            }
        }
        Check.cast(hall, "A=B", 10);
        Check.cast(hall, "B=C|A", 100);
        Check.cast(hall, "", 1000);
        check.same("equal ones are not ahead", hall.ahead(0, 1), 6);
        check.same("nor the other way round", hall.ahead(1, 0), 103);
        check.same("the last group is behind", hall.ahead(0, 2), 14);
        for (int wrong : new int[] {-1, 3, 8, Integer.MAX_VALUE, Integer.MIN_VALUE}) {
            check.refused(hall, "ahead(" + wrong + ", 0)", INDEX, () -> hall.ahead(wrong, 0));
            check.refused(hall, "ahead(0, " + wrong + ")", INDEX, () -> hall.ahead(0, wrong));
            check.promise(27);
            check.refused(hall, "strongestPath(" + wrong + ", 0)", INDEX, () -> hall.strongestPath(wrong, 0));
            check.refused(hall, "strongestPath(0, " + wrong + ")", INDEX, () -> hall.strongestPath(0, wrong));
            check.promise(25);
        }
    }

    private static void beating() {
        check.promise(26);
        Ballothall hall = new Ballothall();
        check.same("without candidates", hall.beatsAll(), -1);
        hall.candidate();
        check.same("a single one", hall.beatsAll(), 0);
        hall.candidate();
        check.same("a tie", hall.beatsAll(), -1);
        Check.cast(hall, "B", 1);
        check.same("of two", hall.beatsAll(), 1);
        hall.candidate();
        check.same("of three", hall.beatsAll(), 1);
        Check.cast(hall, "C", 1);
        check.same("beating one and equal to another", hall.beatsAll(), -1);
        check.same("a circle", circle().beatsAll(), -1);
    }

    private static void paths() {
        check.promise(27);
        Ballothall hall = circle();
        int[][] due = {{0, 6, 6}, {5, 0, 7}, {5, 5, 0}};
        for (int a = 0; a < 3; a++) {
            for (int b = 0; b < 3; b++) {
                check.same("strongestPath(" + a + ", " + b + ")", hall.strongestPath(a, b), due[a][b]);
            }
        }
        hall.candidate();
        check.same("to one who is behind all", hall.strongestPath(0, 3), 9);
        check.same("from one who beats nobody", hall.strongestPath(3, 0), 0);
        Ballothall tie = Check.withCandidates(2);
        Check.cast(tie, "A", 5);
        Check.cast(tie, "B", 5);
        check.same("equal ones do not beat each other", tie.strongestPath(0, 1), 0);

        check.promise(28);
        check.same("pathWinners()", hall.pathWinners(), 1);
        check.same("a tie", tie.pathWinners(), 3);
        check.same("without candidates", new Ballothall().pathWinners(), 0);
        check.same("without ballots", Check.withCandidates(8).pathWinners(), 255);
        // B is ahead of A on one ballot, of C on three, of D on all.
        Ballothall two = Check.withCandidates(4);
        Check.cast(two, "A=B>C", 3);
        Check.cast(two, "B=C>A", 1);
        check.same("B alone, whom nobody beats", two.pathWinners(), 2);
    }

    private static void sets() {
        check.promise(29);
        check.same("without candidates", new Ballothall().beatingSet(), 0);
        check.same("a single one", Check.withCandidates(1).beatingSet(), 1);
        check.same("without ballots", Check.withCandidates(8).beatingSet(), 255);
        Ballothall hall = circle();
        check.same("a circle", hall.beatingSet(), 7);
        hall.candidate();
        check.same("a circle ahead of another one", hall.beatingSet(), 7);
        Check.cast(hall, "D", 100);
        check.same("one who beats all", hall.beatingSet(), 8);
        Check.cast(hall, "A", 200);
        check.same("the first one", hall.beatingSet(), 1);
        Ballothall pair = Check.withCandidates(4);
        Check.cast(pair, "B>D>A>C", 2);
        Check.cast(pair, "D>B>C>A", 2);
        check.same("two who are equal", pair.beatingSet(), 10);
        pair.takeBack(0, 1);
        check.same("one of them", pair.beatingSet(), 8);
    }

    private static void consensus() {
        check.promise(30);
        Ballothall hall = circle();
        check.same("the order", consensus(hall, 3), "012");
        for (int wrong : new int[] {-1, 3, 8, Integer.MAX_VALUE, Integer.MIN_VALUE}) {
            check.refused(hall, "consensusAt(" + wrong + ")", ELEMENT, () -> hall.consensusAt(wrong));
        }
        Ballothall empty = new Ballothall();
        check.refused(empty, "consensusAt(0)", ELEMENT, () -> empty.consensusAt(0));
        check.promise(31);
        check.same("the distance", hall.consensusDistance(), 10);
        check.same("without candidates", empty.consensusDistance(), 0);
        check.same("without ballots", Check.withCandidates(8).consensusDistance(), 0);
        check.promise(30);
        check.same("the first in lexicographic order", consensus(Check.withCandidates(8), 8), "01234567");
        Check.cast(hall, "C>B>A", 4);
        // d(A, B) 6 : 7, d(B, C) 7 : 6, d(A, C) 4 : 9.
        check.same("another order", consensus(hall, 3), "120");
        check.promise(31);
        check.same("its distance", hall.consensusDistance(), 6 + 6 + 4);
        check.promise(30);
        Ballothall tie = Check.withCandidates(3);
        Check.cast(tie, "C>A=B", 3);
        Check.cast(tie, "B=A", 1);
        check.same("equal ones by number", consensus(tie, 3), "201");
        check.promise(31);
        check.same("ballots that rank them equal do not count", tie.consensusDistance(), 2);
        Ballothall large = Check.withCandidates(8);
        Check.cast(large, "H>G>F>E>D>C>B>A", 100000);
        Check.cast(large, "A>B>C>D>E>F>G>H", 99999);
        check.same("28 pairs", large.consensusDistance(), 28L * 99999);
        check.promise(30);
        check.same("the greater side", consensus(large, 8), "76543210");
    }

    public static void main(String[] arguments) {
        pairs();
        beating();
        paths();
        sets();
        consensus();
        check.end();
    }
}
