import java.math.BigInteger;
import java.util.NoSuchElementException;
import java.util.function.Function;
import java.util.function.Supplier;

/** The boundary cases of section 4 and of promises 17 to 24, sentence by sentence. */
public final class CountEdgeTest {
    private static final Class<IndexOutOfBoundsException> INDEX = IndexOutOfBoundsException.class;
    private static final Class<IllegalArgumentException> ARGUMENT = IllegalArgumentException.class;
    private static final Class<IllegalStateException> STATE = IllegalStateException.class;
    private static final Class<NoSuchElementException> ELEMENT = NoSuchElementException.class;
    private static final int NONE = Ballothall.NONE;
    private static final int MIN = Integer.MIN_VALUE;
    private static final int MAX = Integer.MAX_VALUE;
    private static final Check check = new Check("CountEdgeTest");

    private static void refused(Supplier<Ballothall> maker, String what, Class<? extends RuntimeException> due,
            Function<Ballothall, Object> call) {
        check.refused(maker, what, due, call);
    }

    private static Ballothall busy() {
        return Houses.busy("B>C");
    }

    private static Ballothall full() {
        return Houses.full("B>A");
    }

    private static Ballothall counted(int seats, int candidates, Object... ballots) {
        Ballothall hall = Houses.withBallots(candidates, ballots);
        hall.transferable(seats);
        return hall;
    }

    private static String elected(Ballothall hall) {
        StringBuilder elected = new StringBuilder();
        for (int i = 0; !Check.orThrown(() -> hall.electedAt(elected.length())).startsWith("No"); i++) {
            elected.append(hall.electedAt(i));
        }
        return elected.toString();
    }

    private static String excluded(Ballothall hall) {
        StringBuilder excluded = new StringBuilder();
        for (int i = 0; !Check.orThrown(() -> hall.excludedAt(excluded.length())).startsWith("No"); i++) {
            excluded.append(hall.excludedAt(i));
        }
        return excluded.toString();
    }

    private static String piles(Ballothall hall, int step, int candidates) {
        StringBuilder piles = new StringBuilder();
        for (int c = 0; c < candidates; c++) {
            piles.append(Check.pile(hall, step, c)).append(' ');
        }
        return piles.append(Check.pile(hall, step, NONE)).toString();
    }

    // ---- section 4: passing on

    private static void equalParts() {
        check.sentence(0, "it goes to the hopeful candidates of the first group of the kind that has any (the last group does not "
            + "count), in equal parts if there are several");
        String all = "A=B=C=D=E=F=G=H";
        for (int size = 1; size <= 8; size++) {
            Ballothall hall = counted(1, 8, all.substring(0, 2 * size - 1), 1);
            for (int c = 0; c < 8; c++) {
                check.same("a part of " + size, Check.pile(hall, 0, c), c >= size ? "0" : size == 1 ? "1" : "1/" + size);
            }
        }
        // C, then B is excluded: the thirds become halves, then go on to D.
        Ballothall hall = counted(1, 5, "C=B>D", 3, "D", 4, "E", 4, "A", 3);
        check.same("a part of two", piles(hall, 0, 5), "3 3/2 3/2 4 4 0");
        check.same("the other one gets it", piles(hall, 1, 5), "3 3 0 4 4 0");
        check.same("then the next group", piles(hall, 2, 5), "3 0 0 7 4 0");
    }

    private static void lastGroupDoesNotCount() {
        check.sentence(0, "(the last group does not count)");
        Ballothall hall = counted(1, 3, "A", 1, "B", 2, "C", 2);
        check.same("nobody gets it", piles(hall, 1, 3), "0 2 2 1");
        Ballothall later = Houses.withBallots(2, "A>B", 1);
        later.candidate();
        later.setLot(false, 2, 0);
        later.transferable(3);
        check.same("candidates that came later are in it", piles(later, 0, 3), "1 0 0 0");
    }

    private static void exhausted() {
        check.sentence(0, "if there is no such group, it is exhausted");
        check.same("the empty ballot", piles(counted(1, 2, "", 5), 0, 2), "0 0 5");
        check.same("all are empty ballots", elected(counted(3, 2, "", 5)), "01");
        Ballothall hall = counted(2, 3, "A", 9, "B", 2, "C", 1);
        check.same("a surplus", hall.quota() + ": " + piles(hall, 1, 3), "5: 5 2 1 4");
        check.same("and a whole pile", piles(hall, 2, 3), "5 2 0 5");
        Ballothall gone = counted(1, 3, "B=C", 2, "A", 3);
        check.same("parts of a group", piles(gone, 0, 3), "3 1 1 0");
        gone = counted(1, 4, "B=C", 2, "A", 3, "D", 3);
        check.same("of which nobody is left", piles(gone, 2, 4), "3 0 0 3 2");
    }

    private static void kindsWithoutBallots() {
        check.sentence(0, "At first all candidates are hopeful, and the weight of each kind that is its count is passed on");
        Ballothall hall = Houses.withBallots(2, "A", 3, "B", 2);
        hall.takeBack(0, 3);
        hall.transferable(1);
        check.same("a kind with the count 0", piles(hall, 0, 2) + " " + hall.quota(), "0 2 0 2");
        check.same("its candidate is not elected", elected(hall), "1");
    }

    private static void quotas() {
        check.sentence(0, "The quota for n ballots and s seats is the whole part of n / (s + 1), and 1 more.");
        int[][] due = {{1, 1, 2, 2, 3, 3, 4, 4, 5}, {1, 1, 1, 2, 2, 2, 3, 3, 3}, {1, 1, 1, 1, 2, 2, 2, 2, 3}};
        for (int seats = 1; seats <= 3; seats++) {
            for (int n = 0; n <= 8; n++) {
                Ballothall hall = n == 0 ? counted(seats, 1) : counted(seats, 1, "A", n);
                check.same(n + " ballots and " + seats + " seats", hall.quota(), due[seats - 1][n]);
            }
        }
        Ballothall large = full();
        for (int seats = 1; seats <= 3; seats++) {
            large.transferable(seats);
            check.same("1000029 ballots", large.quota(), 1000029 / (seats + 1) + 1);
        }
        Ballothall exhausted = counted(1, 1, "", 3);
        check.same("empty ballots count as well", exhausted.quota(), 2);
    }

    // ---- section 4: steps

    private static void allSeatsTaken() {
        check.sentence(0, "(a) All seats are taken: the count ends.");
        Ballothall hall = counted(1, 3, "A", 5, "B", 4);
        check.same("after one step", hall.steps() + " " + elected(hall) + " " + excluded(hall), "1 0 ");
        check.same("B and C are still there", piles(hall, 1, 3), "5 4 0 0");
        Ballothall two = counted(2, 4, "A", 5, "B", 5, "C", 4);
        check.same("after two steps", two.steps() + " " + elected(two) + " " + excluded(two), "2 01 ");
        Ballothall three = counted(3, 8, "H", 5, "G", 5, "F", 5, "E", 4);
        check.same("after three steps", three.steps() + " " + elected(three) + " " + excluded(three), "3 567 ");
    }

    private static void asManyAsSeats() {
        check.sentence(0, "(b) The hopeful candidates are not more than the seats that are left: the one with the greatest pile "
            + "is elected, of equal ones by lot; nothing is passed on.");
        Ballothall same = counted(2, 2, "A>B", 8, "B", 1);
        check.same("as many, one of them far above the quota", elected(same) + " " + piles(same, 2, 2), "01 8 1 0");
        Ballothall fewer = counted(3, 2, "B>A", 8);
        check.same("fewer", elected(fewer) + " " + piles(fewer, 2, 2), "10 0 8 0");
        Ballothall more = counted(1, 2, "B>A", 8);
        check.same("one more", elected(more) + " " + piles(more, 1, 2), "1 3 5 0");
        // After A's surplus B and C are two for two seats; C is ahead.
        Ballothall rest = counted(3, 4, "A>C", 12, "B", 2, "D", 1, "C", 1);
        check.same("quota()", rest.quota(), 5);
        check.same("later in the count", elected(rest) + " " + excluded(rest), "021 3");
        check.same("piles", piles(rest, rest.steps(), 4), "5 2 5 0 4");
        Ballothall lots = Check.withCandidates(3);
        lots.transferable(3);
        check.same("equal ones by number", elected(lots), "012");
        lots.setLot(false, 0, 2);
        lots.transferable(3);
        check.same("by a smaller lot, then by number", elected(lots), "102");
        lots.setLot(false, 2, 0);
        lots.transferable(3);
        check.same("by the smallest lot", elected(lots), "210");
    }

    private static void pileOfQuota() {
        check.sentence(0, "(c) A hopeful candidate has a pile that is not less than the quota");
        Ballothall equal = counted(1, 3, "A>B", 4, "B", 3);
        check.same("just the quota", equal.quota() + " " + elected(equal) + " " + excluded(equal), "4 0 ");
        Ballothall less = counted(1, 3, "A>B", 3, "B", 3, "", 1);
        check.same("one less than the quota", less.quota() + " " + elected(less) + " " + excluded(less), "4 0 21");
        // 2 and twice a half are 3, the quota of 5.
        Ballothall parts = counted(1, 3, "A", 2, "A=B", 2, "C", 1);
        check.same("the quota in parts", parts.quota() + " " + elected(parts) + " " + excluded(parts), "3 0 ");
        Ballothall short1 = counted(1, 3, "A", 2, "A=B", 1, "C", 2);
        check.same("half a ballot less", short1.quota() + " " + elected(short1) + " " + excluded(short1), "3 0 1");
        check.same("half a ballot more then", piles(short1, 1, 3), "3 0 2 0");
        check.sentence(0, "the one with the greatest pile is elected, of equal ones by lot");
        Ballothall greatest = counted(2, 4, "A", 4, "B", 5, "C", 2);
        check.same("the greatest one first", greatest.quota() + " " + elected(greatest), "4 10");
        Ballothall lots = counted(2, 4, "A", 4, "B", 4, "C", 3);
        check.same("by number", elected(lots), "01");
        lots.setLot(false, 1, 0);
        lots.transferable(2);
        check.same("of equal lots by number", elected(lots), "01");
        lots.setLot(false, 0, 1);
        lots.transferable(2);
        check.same("by lot", elected(lots), "10");
    }

    private static void surplus() {
        check.sentence(0, "They keep the quota; if the pile is greater, then of each of their parcels, in the order in which they came, "
            + "the part (pile - quota) / pile is passed on, and the rest stays.");
        Ballothall equal = counted(2, 4, "A>B", 4, "C>B", 3, "D", 3, "", 1);
        check.same("nothing of a pile that is the quota", piles(equal, 1, 4), "4 0 3 3 1");
        Ballothall one = counted(2, 4, "A>B", 5, "C>B", 3, "D", 3);
        check.same("one of five", one.quota() + ": " + piles(one, 1, 4), "4: 4 1 3 3 0");
        Ballothall kinds = counted(2, 4, "A>B", 3, "A>D", 2, "C>B", 3, "D", 3);
        check.same("a fifth of each parcel", piles(kinds, 1, 4), "4 3/5 3 17/5 0");
        Ballothall some = counted(2, 4, "A>B", 3, "A", 2, "C>B", 3, "D", 3);
        check.same("what is exhausted does not stay", piles(some, 1, 4), "4 3/5 3 3 2/5");
        Ballothall half = counted(2, 4, "A>B=D", 5, "C>B", 3, "D", 3);
        check.same("in equal parts", piles(half, 1, 4), "4 1/2 3 7/2 0");
        // A passes a half of 10 and of 6/2 on; B, who has 1 + 3 + 5 then, passes a part of what came from A on.
        Ballothall chain = counted(3, 5, "A>B>C", 8, "B>D", 1, "E", 3);
        check.same("quota()", chain.quota(), 4);
        check.same("a half of eight", piles(chain, 1, 5), "4 5 0 0 3 0");
        check.same("a fifth of four and of one", piles(chain, 2, 5), "4 4 4/5 1/5 3 0");
    }

    private static void smallestPile() {
        check.sentence(0, "(d) The hopeful candidate with the smallest pile is excluded, of equal ones the one that does not win by "
            + "lot.");
        Ballothall smallest = counted(1, 3, "A", 2, "B", 1, "C", 2);
        check.same("the smallest", excluded(smallest), "12");
        Ballothall lots = counted(1, 3, "A", 1, "B", 1, "C", 1);
        check.same("of equal ones the greater number", excluded(lots), "21");
        lots.setLot(false, 2, 1);
        lots.setLot(false, 0, 1);
        lots.transferable(1);
        check.same("of equal lots the greater number", excluded(lots), "21");
        lots.setLot(false, 2, 0);
        lots.transferable(1);
        check.same("of equal ones the greater lot", excluded(lots), "10");
        lots.setLot(false, 0, 99);
        lots.transferable(1);
        check.same("the greatest lot first", excluded(lots), "01");
        check.sentence(0, "Their parcels are passed on, in the order in which they came.");
        Ballothall whole = counted(1, 3, "A>B", 2, "A>C", 1, "B", 4, "C", 4);
        check.same("as a whole", piles(whole, 0, 3) + ", " + piles(whole, 1, 3), "3 4 4 0, 0 6 5 0");
        Ballothall zero = counted(1, 3, "B", 1, "C", 1);
        check.same("one without ballots", excluded(zero) + " " + piles(zero, 1, 3), "02 0 1 1 0");
    }

    private static void nobodyHopeful() {
        check.sentence(0, "If there are no hopeful candidates any more, the count ends as well.");
        Ballothall one = counted(3, 1, "A", 9);
        check.same("one for three seats", one.steps() + " " + elected(one) + " " + excluded(one), "1 0 ");
        Ballothall two = counted(3, 2, "A", 9);
        check.same("two for three seats", two.steps() + " " + elected(two) + " " + excluded(two), "2 01 ");
        Ballothall three = counted(3, 3, "A", 9);
        check.same("three for three seats", three.steps() + " " + elected(three) + " " + excluded(three), "3 012 ");
        Ballothall four = counted(3, 4, "B=C", 9);
        check.same("four for three seats", four.steps() + " " + elected(four) + " " + excluded(four), "4 120 3");
    }

    // ---- promise 17

    private static void rangeOfSeats() {
        check.sentence(17, "seats: 1 to 3");
        check.same("the least", busy().transferable(1), 1);
        check.same("the greatest", busy().transferable(3), 3);
        for (int seats : new int[] {0, -1, 4, MIN, MAX}) {
            refused(CountEdgeTest::busy, "transferable(" + seats + ")", ARGUMENT, hall -> hall.transferable(seats));
            refused(CountEdgeTest::full, "transferable(" + seats + ")", ARGUMENT, hall -> hall.transferable(seats));
            refused(Ballothall::new, "transferable(" + seats + ")", ARGUMENT, hall -> hall.transferable(seats));
        }
        check.sentence(17, "Throws IllegalStateException if there are no candidates");
        for (int seats = 1; seats <= 3; seats++) {
            int some = seats;
            refused(() -> Houses.withBallots(0, "", 5), "without candidates", STATE, hall -> hall.transferable(some));
        }
        Ballothall undone = Check.withCandidates(1);
        undone.undo();
        check.same("a candidate that was undone", Check.orThrown(() -> undone.transferable(1)), "IllegalStateException");
        check.same("a single one", Check.withCandidates(1).transferable(1), 1);
        check.sentence(17, "Returns the number of elected candidates.");
        for (int candidates = 1; candidates <= 8; candidates++) {
            for (int seats = 1; seats <= 3; seats++) {
                check.same(candidates + " for " + seats, Check.withCandidates(candidates).transferable(seats),
                    Math.min(candidates, seats));
            }
        }
    }

    private static void keptCount() {
        check.sentence(17, "keeps the count until the next one, or until it is undone");
        Ballothall hall = counted(1, 2, "A>B", 9);
        hall.takeBack(0, 9);
        hall.setLot(false, 0, 99);
        hall.candidate();
        Check.cast(hall, "C", 5);
        check.same("refused", Check.orThrown(() -> hall.transferable(4)), "IllegalArgumentException");
        check.same("kept", hall.quota() + " " + elected(hall) + " " + piles(hall, 1, 2), "5 0 5 4 0");
        hall.transferable(2);
        check.same("the next one", hall.quota() + " " + elected(hall) + " " + piles(hall, 1, 3), "2 21 0 0 2 3");
        hall.undo();
        check.same("undone", hall.quota() + " " + elected(hall) + " " + piles(hall, 1, 2), "5 0 5 4 0");
        for (int i = 0; i < 5; i++) {
            hall.undo();
        }
        check.same("there was none", hall.quota() + " " + hall.steps() + " " + elected(hall) + excluded(hall), "-1 0 ");
        check.same("no pile", Check.orThrown(() -> hall.writePile(0, 0)), "NoSuchElementException");
        check.same("no quota", Check.orThrown(() -> hall.solidQuotas(1)), "IllegalStateException");
    }

    private static void countsOneAfterAnother() {
        check.sentence(17, "Counts by the transferable vote");
        Ballothall hall = Houses.withBallots(5, "A>B>C", 8, "B>D", 1, "E", 3, "D=C>A", 2);
        hall.transferable(3);
        String first = piles(hall, 1, 5) + ", " + piles(hall, 2, 5) + ", " + piles(hall, hall.steps(), 5);
        for (int i = 0; i < 3; i++) {
            hall.transferable(3);
            check.same("the same ballots once more", piles(hall, 1, 5) + ", " + piles(hall, 2, 5) + ", "
                + piles(hall, hall.steps(), 5), first);
        }
        Ballothall other = Houses.withBallots(5, "A>B>C", 8, "B>D", 1, "E", 3, "D=C>A", 2);
        other.transferable(1);
        other.takeBack(0, 7);
        Check.cast(other, "E>A", 4);
        other.transferable(2);
        check.same("other ballots", other.quota() + ": " + piles(other, 0, 5) + ", " + piles(other, 1, 5) + ", "
            + piles(other, 2, 5), "4: 1 1 1 1 7 0, 19/7 1 1 1 4 9/7, 19/7 1 2 0 4 9/7");
    }

    private static void surplusAheadOfOthers() {
        check.sentence(0, "then of each of their parcels, in the order in which they came, the part");
        // C passes 3/7 of 7 on; A, who comes ahead of C, passes all that came from C on when they go.
        Ballothall first = counted(2, 4, "C>A>B", 5, "C>D", 2, "A>B", 1, "B", 2, "D", 1);
        check.same("quota()", first.quota(), 4);
        check.same("15/7 to A, 6/7 to D", piles(first, 1, 4), "22/7 2 4 13/7 0");
        check.same("D is exhausted", piles(first, 2, 4), "22/7 2 4 0 13/7");
        check.same("B is exhausted", piles(first, 3, 4), "22/7 0 4 0 27/7");
        Ballothall second = counted(2, 4, "C>A>B", 4, "C>D", 3, "A>B", 1, "B", 3, "D", 2);
        check.same("quota()", second.quota(), 5);
        check.same("8/7 to A, 6/7 to D", piles(second, 1, 4), "15/7 3 5 20/7 0");
        check.same("from A to B as it came, and what A had before", piles(second, 2, 4), "0 36/7 5 20/7 0");
    }

    private static void wholePiles() {
        check.sentence(22, "numerator, then a slash and the denominator, if this is not 1");
        int[] counts = {1, 2, 29, 20000, 26630, 26631, 26632, 30000, 53261, 99999, 100000};
        for (int candidates = 1; candidates <= 8; candidates++) {
            for (int count : counts) {
                Ballothall hall = counted(1, candidates, "A", count);
                check.same(count + " ballots for one of " + candidates, Check.pile(hall, 0, 0), count);
            }
        }
        for (int count : counts) {
            Ballothall two = counted(1, 8, "A>B", count, "A>C", count, "A>D", count);
            check.same("three times " + count, Check.pile(two, 0, 0), 3 * count);
        }
    }

    // ---- promises 18 to 21

    private static void withoutCount() {
        check.sentence(18, "NONE if there was no count");
        check.same("quota()", Houses.withBallots(2, "A", 5).quota(), -1);
        check.sentence(21, "0 without a count");
        check.same("steps()", Houses.withBallots(2, "A", 5).steps(), 0);
        Supplier<Ballothall> never = () -> Houses.withBallots(2, "A", 5);
        for (int index : new int[] {-1, 0, 1, MIN, MAX}) {
            check.sentence(19, "Throws NoSuchElementException if there is none");
            refused(never, "electedAt(" + index + ")", ELEMENT, hall -> hall.electedAt(index));
            check.sentence(20, "Throws NoSuchElementException if there is none");
            refused(never, "excludedAt(" + index + ")", ELEMENT, hall -> hall.excludedAt(index));
        }
    }

    private static void placesOfElected() {
        check.sentence(19, "Throws NoSuchElementException if there is none");
        Supplier<Ballothall> two = () -> counted(2, 4, "A", 5, "B", 3, "C", 2);
        check.same("the first and the last one", two.get().electedAt(0) + " " + two.get().electedAt(1), "0 1");
        for (int index : new int[] {-1, 2, 3, MIN, MAX}) {
            refused(two, "electedAt(" + index + ")", ELEMENT, hall -> hall.electedAt(index));
        }
        Ballothall three = full();
        check.same("the third one", Check.orThrown(() -> three.electedAt(2)).length(), 1);
        refused(CountEdgeTest::full, "electedAt(3)", ELEMENT, hall -> hall.electedAt(3));
        Ballothall after = counted(3, 3, "A", 5);
        after.transferable(1);
        check.same("fewer than in the count before", elected(after), "0");
        check.sentence(20, "Throws NoSuchElementException if there is none");
        check.same("one", excluded(two.get()), "32");
        for (int index : new int[] {-1, 2, 3, MIN, MAX}) {
            refused(two, "excludedAt(" + index + ")", ELEMENT, hall -> hall.excludedAt(index));
        }
        Supplier<Ballothall> seven = () -> counted(1, 8);
        check.same("seven", excluded(seven.get()), "7654321");
        refused(seven, "excludedAt(7)", ELEMENT, hall -> hall.excludedAt(7));
        refused(() -> counted(3, 3), "excludedAt(0) without exclusions", ELEMENT, hall -> hall.excludedAt(0));
        Ballothall fewer = counted(1, 4);
        fewer.transferable(3);
        check.same("fewer than in the count before", excluded(fewer), "3");
    }

    private static void numberOfSteps() {
        check.sentence(21, "Returns the number of elections and exclusions of the latest count.");
        check.same("the fewest", counted(1, 8, "A", 1).steps(), 1);
        check.same("the most", counted(1, 8).steps(), 8);
        check.same("the most for three", counted(3, 8).steps(), 8);
        Ballothall hall = counted(1, 8);
        hall.transferable(3);
        Check.cast(hall, "B", 7);
        hall.transferable(1);
        check.same("of the latest one", hall.steps(), 1);
    }

    // ---- promises 22 and 23

    private static void stepsOfPiles() {
        check.sentence(22, "or there were not so many steps");
        Supplier<Ballothall> two = () -> counted(2, 4, "A", 5, "B", 3, "C", 2);
        check.same("the first moment", two.get().writePile(0, 0), 1);
        check.same("the last moment", two.get().writePile(4, 0), 1);
        for (int step : new int[] {-1, 5, 8, 9, MIN, MAX}) {
            refused(two, "writePile(" + step + ", 0)", ELEMENT, hall -> hall.writePile(step, 0));
            refused(two, "writePile(" + step + ", NONE)", ELEMENT, hall -> hall.writePile(step, NONE));
        }
        Supplier<Ballothall> most = () -> counted(1, 8, "A", 1, "", 5);
        check.same("the eighth step", most.get().writePile(8, 0), 1);
        refused(most, "writePile(9, 0)", ELEMENT, hall -> hall.writePile(9, 0));
        check.sentence(22, "Throws NoSuchElementException if there was no count");
        Supplier<Ballothall> never = () -> Houses.withBallots(2, "A", 5);
        refused(never, "writePile(0, 0)", ELEMENT, hall -> hall.writePile(0, 0));
        refused(never, "writePile(0, NONE)", ELEMENT, hall -> hall.writePile(0, NONE));
    }

    private static void candidatesOfPiles() {
        check.sentence(22, "Throws IndexOutOfBoundsException if there is no such candidate");
        for (int candidate : new int[] {-2, 4, 8, MIN, MAX}) {
            refused(CountEdgeTest::busy, "writePile(0, " + candidate + ")", INDEX, hall -> hall.writePile(0, candidate));
            refused(CountEdgeTest::busy, "writePile(99, " + candidate + ")", INDEX, hall -> hall.writePile(99, candidate));
            refused(() -> Check.withCandidates(4), "without a count", INDEX, hall -> hall.writePile(0, candidate));
        }
        refused(CountEdgeTest::full, "writePile(0, 8)", INDEX, hall -> hall.writePile(0, 8));
        refused(CountEdgeTest::full, "writePile(0, -2)", INDEX, hall -> hall.writePile(0, -2));
        check.same("the last candidate of eight", Check.pile(full(), 0, 7), "0");
        check.same("NONE", Check.pile(counted(1, 2, "", 12), 0, NONE), "12");
    }

    private static void pilesOfMoments() {
        check.sentence(22, "The pile of an elected candidate is what they keep, that of an excluded one 0; a candidate that came "
            + "later has 0.");
        Ballothall hall = counted(1, 3, "A>B", 3, "B", 2, "C", 2);
        check.same("excluded", piles(hall, 1, 3) + ", " + piles(hall, 2, 3), "3 2 0 2, 3 0 0 4");
        check.same("elected with less than the quota", piles(hall, 3, 3) + " " + hall.quota(), "3 0 0 4 4");
        Ballothall keeps = counted(1, 3, "A>B", 7);
        check.same("elected with more", piles(keeps, 1, 3), "4 3 0 0");
        for (int c = 3; c < 8; c++) {
            keeps.candidate();
            check.same("came later", Check.pile(keeps, 0, c) + Check.pile(keeps, 1, c), "00");
        }
        Ballothall again = Houses.withBallots(8, "H", 5);
        again.transferable(1);
        again.undo();
        again.undo();
        again.undo();
        again.transferable(1);
        again.candidate();
        check.same("came later, where one had a pile in a count that was undone", Check.pile(again, 0, 7), "0");
    }

    private static void lowestTerms() {
        check.sentence(0, "They are told in lowest terms, with a denominator above 0, as decimal digits in the output.");
        check.same("6/2", Check.pile(counted(1, 3, "A=B", 6), 0, 0), "3");
        check.same("6/4", Check.pile(counted(1, 4, "A=B=C=D", 6), 0, 0), "3/2");
        check.same("0/3", Check.pile(counted(1, 4, "A=B=C", 6), 0, 3), "0");
        check.same("1/2 and 1/3 and 1/6", Check.pile(counted(1, 6, "A=B", 1, "A=B=C", 1, "A=B=C=D=E=F", 1), 0, 0), "1");
        check.same("840 parts", Check.pile(counted(1, 8, "A=B=C=D=E=F=G=H", 1, "A=B=C=D=E=F=G", 1, "A=B=C=D=E", 1,
            "A=B=C", 1), 0, 0), "673/840");
        check.sentence(22, "then a slash and the denominator, if this is not 1");
        Ballothall hall = counted(1, 3, "A=B", 1);
        check.same("a half", hall.writePile(0, 0) + " " + Check.output(hall), "3 1/2");
        check.same("none", hall.writePile(0, 2) + " " + Check.output(hall), "1 0");
        check.same("a great whole one", full().writePile(0, 0), 7);
    }

    private static BigInteger[] fraction(String text) {
        String[] parts = text.split("/");
        return new BigInteger[] {new BigInteger(parts[0]), parts.length == 1 ? BigInteger.ONE : new BigInteger(parts[1])};
    }

    private static void greatestCount() {
        check.sentence(0, "Fractions are exact.");
        String[] texts = {"A=B=C=D=E=F=G=H", "A>B=C=D=E=F=G", "B=A>C=D>E=F=H", "C=H=G>A=B>D=E=F", "A=C=E=G>B=D=F=H",
            "B>A=D=G", "A>C>B=D=H", "C>B>E=F=G=H"};
        int[] first = {99991, 99989, 99971, 99961, 99929, 99923, 99907, 99901};
        for (int candidate = NONE; candidate < 8; candidate++) {
            Ballothall hall = Check.withCandidates(8);
            for (int i = 0; i < 40; i++) {
                Check.cast(hall, texts[i % 8], i < 8 ? first[i] : 100000);
            }
            hall.transferable(3);
            String text = Check.pile(hall, hall.steps(), candidate);
            BigInteger[] pile = fraction(text);
            check.same("lowest terms of " + candidate, pile[0].gcd(pile[1]).equals(pile[1].signum() == 0 ? pile[0]
                : BigInteger.ONE) || pile[0].signum() == 0, true);
            check.same("the count of " + hall.allBallots(), hall.errors(), 0);
        }
        BigInteger[] sum = {BigInteger.ZERO, BigInteger.ONE};
        for (int candidate = NONE; candidate < 8; candidate++) {
            Ballothall hall = Check.withCandidates(8);
            for (int i = 0; i < 40; i++) {
                Check.cast(hall, texts[i % 8], i < 8 ? first[i] : 100000);
            }
            hall.transferable(3);
            BigInteger[] pile = fraction(Check.pile(hall, 3, candidate));
            sum[0] = sum[0].multiply(pile[1]).add(pile[0].multiply(sum[1]));
            sum[1] = sum[1].multiply(pile[1]);
        }
        check.same("all piles together", sum[0].mod(sum[1]) + " " + sum[0].divide(sum[1]), "0 3999572");
    }

    private static void bytesOfOutput() {
        check.sentence(23, "NONE if there is no such byte");
        for (int index : new int[] {-1, 0, 1, MIN, MAX}) {
            check.same("before anything was written", counted(1, 3, "A=B", 1).outputByte(index), -1);
        }
        Ballothall hall = counted(1, 3, "A=B", 1);
        hall.writePile(0, 0);
        check.same("three bytes", "" + (char) hall.outputByte(0) + (char) hall.outputByte(1) + (char) hall.outputByte(2),
            "1/2");
        for (int index : new int[] {-1, 3, 4, 1000, MIN, MAX}) {
            check.same("outputByte(" + index + ")", hall.outputByte(index), -1);
        }
        check.sentence(23, "Returns a byte of the output that was written last.");
        hall.writePile(0, 2);
        check.same("a shorter one", hall.outputByte(0) + " " + hall.outputByte(1) + " " + hall.outputByte(2), "48 -1 -1");
        check.same("refused", Check.orThrown(() -> hall.writePile(9, 0)), "NoSuchElementException");
        check.same("the one before", hall.outputByte(0), 48);
        for (int i = 0; i < 6; i++) {
            hall.undo();
        }
        check.same("without anything else in the house", hall.outputByte(0) + " " + hall.outputByte(1), "48 -1");
    }

    // ---- promise 24

    private static void setsOfSolidQuotas() {
        check.sentence(24, "Throws IllegalArgumentException if the set is empty, or has others than candidates");
        for (int set : new int[] {0, -1, 16, 17, 31, 256, MIN, MAX}) {
            refused(CountEdgeTest::busy, "solidQuotas(" + set + ")", ARGUMENT, hall -> hall.solidQuotas(set));
            refused(() -> Check.withCandidates(4), "without a count", ARGUMENT, hall -> hall.solidQuotas(set));
        }
        check.same("the first one, the last one", busy().solidQuotas(1) + " " + busy().solidQuotas(8), "1 0");
        for (int set : new int[] {0, -1, 256, 257}) {
            refused(CountEdgeTest::full, "solidQuotas(" + set + ")", ARGUMENT, hall -> hall.solidQuotas(set));
        }
        check.same("all of eight", full().solidQuotas(255), 3);
        check.sentence(24, "Throws IllegalStateException if there was no count");
        refused(() -> Houses.withBallots(4, "A", 5), "solidQuotas(1)", STATE, hall -> hall.solidQuotas(1));
        refused(() -> Houses.withBallots(4, "A", 5), "solidQuotas(15)", STATE, hall -> hall.solidQuotas(15));
    }

    private static void wholeQuotas() {
        check.sentence(24, "Returns how many whole quotas of the latest count the ballots (as they are now) have");
        Ballothall hall = counted(1, 4, "A=B>C", 4, "D", 4);
        check.same("quota()", hall.quota(), 5);
        check.same("one less than a quota", hall.solidQuotas(3), 0);
        Check.cast(hall, "B>A", 1);
        check.same("just a quota", hall.solidQuotas(3) + " " + hall.quota(), "1 5");
        Check.cast(hall, "B>A", 4);
        check.same("one less than two quotas", hall.solidQuotas(3), 1);
        Check.cast(hall, "B>A", 1);
        check.same("just two quotas", hall.solidQuotas(3), 2);
        Ballothall one = counted(3, 4);
        check.same("the quota 1 without ballots", one.quota() + " " + one.solidQuotas(1) + " " + one.solidQuotas(15), "1 0 0");
        Check.cast(one, "A>B", 1);
        check.same("the quota 1 and one ballot", one.solidQuotas(1) + " " + one.solidQuotas(3) + " " + one.solidQuotas(2),
            "1 1 0");
        check.sentence(24, "at most the number of candidates in the set");
        Check.cast(hall, "B>A", 100);
        check.same("many quotas for two", hall.solidQuotas(3), 2);
        check.same("many quotas for one", hall.solidQuotas(2), 1);
        check.same("many quotas for all", hall.solidQuotas(15), 4);
        check.sentence(24, "that rank each candidate of a set strictly ahead of each other candidate");
        check.same("A and B and C: four only", hall.solidQuotas(7), 0);
        check.same("A: B is equal or ahead", hall.solidQuotas(1), 0);
        check.same("A and D", hall.solidQuotas(9), 0);
        Check.cast(hall, "A=B=C=D", 100);
        check.same("equal with others", hall.solidQuotas(1) + " " + hall.solidQuotas(7), "0 0");
        Check.cast(hall, "", 100);
        check.same("no rank", hall.solidQuotas(8), 0);
        hall.candidate();
        check.same("a candidate that came later is another one", hall.solidQuotas(15), 4);
        check.same("since A=B=C=D is ahead of them, and the rest not", hall.solidQuotas(23), 0);
    }

    public static void main(String[] arguments) {
        equalParts();
        lastGroupDoesNotCount();
        exhausted();
        kindsWithoutBallots();
        quotas();
        allSeatsTaken();
        asManyAsSeats();
        pileOfQuota();
        surplus();
        smallestPile();
        nobodyHopeful();
        rangeOfSeats();
        keptCount();
        countsOneAfterAnother();
        surplusAheadOfOthers();
        wholePiles();
        withoutCount();
        placesOfElected();
        numberOfSteps();
        stepsOfPiles();
        candidatesOfPiles();
        pilesOfMoments();
        lowestTerms();
        greatestCount();
        bytesOfOutput();
        setsOfSolidQuotas();
        wholeQuotas();
        check.end();
    }
}
