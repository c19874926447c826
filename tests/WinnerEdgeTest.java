import java.util.NoSuchElementException;
import java.util.function.Function;
import java.util.function.Supplier;

/** The boundary cases of the sections 6, 7 and 8 (recounts) and of promises 32 to 40, sentence by sentence. */
public final class WinnerEdgeTest {
    private static final Class<IndexOutOfBoundsException> INDEX = IndexOutOfBoundsException.class;
    private static final Class<IllegalArgumentException> ARGUMENT = IllegalArgumentException.class;
    private static final Class<IllegalStateException> STATE = IllegalStateException.class;
    private static final Class<NoSuchElementException> ELEMENT = NoSuchElementException.class;
    private static final int MIN = Integer.MIN_VALUE;
    private static final int MAX = Integer.MAX_VALUE;
    private static final int[] WRONG_WAYS = {-1, 5, MIN, MAX};
    private static final Check check = new Check("WinnerEdgeTest");

    private static void refused(Supplier<Ballothall> maker, String what, Class<? extends RuntimeException> due,
            Function<Ballothall, Object> call) {
        check.refused(maker, what, due, call);
    }

    private static Ballothall busy() {
        return Houses.busy("B>C");
    }

    private static Ballothall full() {
        return Houses.full("B>A");
    }

    private static String winners(Ballothall hall) {
        StringBuilder winners = new StringBuilder();
        for (int way = 0; way < 5; way++) {
            winners.append(way == 0 ? "" : " ").append(hall.winner(way));
        }
        return winners.toString();
    }

    private static String gone(Ballothall hall, int places) {
        StringBuilder gone = new StringBuilder();
        for (int i = 0; i < places; i++) {
            gone.append(hall.runoffOut(i));
        }
        return gone.toString();
    }

    private static int with(Ballothall hall, String ballot, int way, int count) {
        Check.type(hall, ballot);
        return hall.winnerWith(way, count);
    }

    // ---- promise 32 and section 6

    private static void rangeOfWays() {
        for (int way : WRONG_WAYS) {
            check.sentence(32, "way: 0 to 4");
            refused(WinnerEdgeTest::busy, "winner(" + way + ")", ARGUMENT, hall -> hall.winner(way));
            refused(Ballothall::new, "winner(" + way + ")", ARGUMENT, hall -> hall.winner(way));
            check.sentence(35, "way: 0 to 4");
            refused(WinnerEdgeTest::busy, "winnerWith(" + way + ", 0)", ARGUMENT, hall -> hall.winnerWith(way, 0));
            check.sentence(36, "way: 0 to 4");
            refused(WinnerEdgeTest::busy, "gain(" + way + ")", ARGUMENT, hall -> hall.gain(way));
            check.sentence(37, "way: 0 to 4");
            refused(WinnerEdgeTest::busy, "gainAt(" + way + ", 0)", ARGUMENT, hall -> hall.gainAt(way, 0));
            check.sentence(38, "way: 0 to 4");
            refused(WinnerEdgeTest::busy, "spoiler(" + way + ")", ARGUMENT, hall -> hall.spoiler(way));
            refused(Ballothall::new, "spoiler(" + way + ")", ARGUMENT, hall -> hall.spoiler(way));
        }
    }

    private static void fiveWays() {
        check.sentence(0, "The ways are: 0 most ballots in whose first written group the candidate stands alone");
        Ballothall hall = Houses.withBallots(4, "A>B>C", 4, "C>B>A", 3, "B>C>A", 2);
        check.same("three winners", winners(hall), "0 2 1 1 0");
        Check.cast(hall, "D=B|A", 3);
        check.same("other ones", winners(hall), "0 1 1 1 1");
        // D has most points, since all others are far behind on some ballots, but A beats D by 5 : 4.
        Ballothall points = Houses.withBallots(4, "A>D", 5, "D>B>C>A", 4);
        check.same("points and paths", points.winner(2) + " " + points.winner(3), "0 3");
    }

    private static void nobodyWins() {
        check.sentence(32, "NONE without candidates");
        check.same("winner()", winners(new Ballothall()), "-1 -1 -1 -1 -1");
        check.same("with empty ballots", winners(Houses.withBallots(0, "", 5)), "-1 -1 -1 -1 -1");
        Ballothall undone = Check.withCandidates(1);
        undone.undo();
        check.same("with one that was undone", winners(undone), "-1 -1 -1 -1 -1");
        check.same("a single one", winners(Check.withCandidates(1)), "0 0 0 0 0");
    }

    private static void everybodyEqual() {
        check.sentence(0, "With no ballots at all everybody is equal");
        for (int count = 1; count <= 8; count++) {
            Ballothall hall = Check.withCandidates(count);
            check.same("the smallest lot of " + count, winners(hall), "0 0 0 0 0");
            hall.setLot(false, count - 1, 0);
            hall.setLot(false, 0, count == 1 ? 0 : 99);
            int due = count - 1;
            check.same("a smaller lot", winners(hall), due + " " + due + " " + due + " " + due + " " + due);
        }
        Ballothall hall = Check.withCandidates(3);
        hall.setLot(false, 0, 99);
        hall.setLot(false, 1, 99);
        hall.setLot(false, 2, 99);
        check.same("of equal lots the smaller number", winners(hall), "0 0 0 0 0");
        check.same("empty ballots", winners(Houses.withBallots(2, "", 9)), "0 0 0 0 0");
        check.same("all in one group", winners(Houses.withBallots(2, "A=B", 9)), "0 0 0 0 0");
    }

    private static void tiesByLot() {
        check.sentence(32, "In the ways 0, 3 and 4 equal ones are decided by lot.");
        Ballothall hall = Houses.withBallots(4, "B>C", 5, "C>B", 5);
        check.same("by number", winners(hall), "1 1 1 1 1");
        hall.setLot(false, 1, 2);
        check.same("of equal lots by number", winners(hall), "1 1 1 1 1");
        hall.setLot(false, 1, 3);
        check.same("by lot", winners(hall), "2 2 2 2 2");
        hall.setLot(false, 0, 0);
        Check.cast(hall, "B>C", 1);
        check.same("one ballot more", winners(hall), "1 1 1 1 1");
    }

    private static void firstGroups() {
        check.sentence(0, "0 most ballots in whose first written group the candidate stands alone");
        Ballothall hall = Houses.withBallots(3, "A=B>C", 9, "C", 1, "", 9);
        check.same("not with another one", hall.votesFor(0, 0) + " " + hall.votesFor(0, 1) + " " + hall.votesFor(0, 2), "0 0 1");
        check.same("the winner", hall.winner(0), 2);
        Ballothall bar = Houses.withBallots(3, "A>B|C", 5);
        check.same("the bar does not matter", bar.votesFor(0, 0) + " " + bar.votesFor(0, 1), "5 0");
    }

    // ---- promise 33

    private static void waysThatCountOnce() {
        check.sentence(33, "way: 0, 3 or 4");
        for (int way : new int[] {-1, 1, 2, 5, MIN, MAX}) {
            refused(WinnerEdgeTest::busy, "votesFor(" + way + ", 0)", ARGUMENT, hall -> hall.votesFor(way, 0));
            refused(WinnerEdgeTest::busy, "votesFor(" + way + ", 4)", INDEX, hall -> hall.votesFor(way, 4));
        }
        check.same("each of them", busy().votesFor(0, 0) + " " + busy().votesFor(3, 3) + " " + busy().votesFor(4, 3),
            "39 120 20");
        check.sentence(33, "Throws IndexOutOfBoundsException see section 1");
        for (int candidate : new int[] {-1, 4, 8, MIN, MAX}) {
            for (int way : new int[] {0, 3, 4}) {
                refused(WinnerEdgeTest::busy, "votesFor(" + way + ", " + candidate + ")", INDEX,
                    hall -> hall.votesFor(way, candidate));
            }
        }
        refused(WinnerEdgeTest::full, "votesFor(3, 8)", INDEX, hall -> hall.votesFor(3, 8));
        check.same("the last one of eight", full().votesFor(0, 7) + " " + full().votesFor(4, 7), "0 0");
    }

    private static void points() {
        check.sentence(33, "a ballot gives a candidate 2 points for each other one that it ranks behind them and 1 for each one that "
            + "it ranks equal");
        check.same("a single one", Houses.withBallots(1, "A", 9).votesFor(3, 0), 0);
        check.same("without ballots", Check.withCandidates(8).votesFor(3, 0), 0);
        Ballothall all = Houses.withBallots(8, "A>B>C>D>E>F>G>H", 1);
        Ballothall equal = Houses.withBallots(8, "", 1);
        Ballothall group = Houses.withBallots(8, "A=B=C>D=E", 1);
        int[] due = {12, 12, 12, 7, 7, 2, 2, 2};
        for (int c = 0; c < 8; c++) {
            check.same("a strict order", all.votesFor(3, c), 14 - 2 * c);
            check.same("all equal", equal.votesFor(3, c), 7);
            check.same("groups", group.votesFor(3, c), due[c]);
        }
        Ballothall greatest = Check.withCandidates(8);
        for (int i = 0; i < 140; i++) {
            Check.cast(greatest, "H>" + (char) ('A' + i % 7) + (i % 14 < 7 ? "" : "|" + (char) ('A' + (i + 1) % 7)), 100000);
        }
        check.same("14 million ballots with 14 points each", greatest.votesFor(3, 7), 196000000);
    }

    // ---- promise 34

    private static void placesOfRunoff() {
        check.sentence(34, "Throws NoSuchElementException if there is none");
        for (int index : new int[] {-1, 3, 4, 8, MIN, MAX}) {
            refused(WinnerEdgeTest::busy, "runoffOut(" + index + ")", ELEMENT, hall -> hall.runoffOut(index));
        }
        check.same("the first and the last one", busy().runoffOut(0) + " " + busy().runoffOut(2), "2 1");
        for (int index : new int[] {-1, 0, 1}) {
            refused(Ballothall::new, "runoffOut(" + index + ")", ELEMENT, hall -> hall.runoffOut(index));
            refused(() -> Houses.withBallots(1, "A", 3), "of a single one", ELEMENT, hall -> hall.runoffOut(index));
        }
        check.same("seven of eight", gone(Check.withCandidates(8), 7), "7654321");
        refused(WinnerEdgeTest::full, "runoffOut(7)", ELEMENT, hall -> hall.runoffOut(7));
    }

    private static void runoff() {
        check.sentence(34, "the candidate with the fewest such ballots goes, of equal ones the one that does not win by lot");
        Ballothall hall = Houses.withBallots(3, "A", 2, "B", 2, "C", 3);
        check.same("the greater number", gone(hall, 2), "10");
        hall.setLot(false, 0, 1);
        check.same("of equal lots the greater number", gone(hall, 2), "10");
        hall.setLot(false, 0, 2);
        check.same("the greater lot", gone(hall, 2), "01");
        Check.cast(hall, "A", 1);
        check.same("the fewest, then by lot", gone(hall, 2), "12");
        check.sentence(34, "each ballot counts for the candidate that it ranks alone ahead of all others that are left");
        check.same("an equal one that is left", gone(Houses.withBallots(3, "A=B", 9, "C", 1), 2), "12");
        check.same("an equal one that is gone", gone(Houses.withBallots(4, "A=B", 9, "C", 1, "D", 1, "A", 2), 3), "132");
        check.same("a last group of one does not stand ahead", gone(Houses.withBallots(3, "A>B", 1, "B>A", 1), 2), "21");
    }

    // ---- promise 35

    private static void rangeOfMore() {
        check.sentence(35, "count: -1000 to 1000");
        Ballothall hall = Houses.withBallots(2, "A", 1000, "B", 1);
        check.same("the greatest", with(hall, "B", 0, 1000), 1);
        check.same("one less than that", with(hall, "B", 0, 999), 0);
        check.same("one", with(Check.withCandidates(2), "B", 0, 1), 1);
        check.same("one less", with(Houses.withBallots(2, "B", 1, "A=B", 1), "B", 0, -1), 0);
        check.same("none", with(Houses.withBallots(2, "B", 1), "A", 0, 0), 1);
        check.same("the least", with(hall, "A", 0, -1000), 1);
        check.same("one more than that", with(hall, "A", 0, -999), 0);
        for (int count : new int[] {-1001, 1001, MIN, MAX}) {
            refused(WinnerEdgeTest::busy, "winnerWith(0, " + count + ")", ARGUMENT, house -> house.winnerWith(0, count));
            refused(() -> Houses.busy("A>"), "winnerWith(0, " + count + ") with an error", ARGUMENT,
                house -> house.winnerWith(0, count));
        }
    }

    private static void atMostAsThereAre() {
        check.sentence(35, "a negative number takes as many ballots of this kind away, at most as many as there are");
        Ballothall hall = Houses.withBallots(2, "A", 3, "B", 2, "", 1);
        check.same("all but one", with(hall, "A", 0, -2), 1);
        check.same("all", with(hall, "A", 0, -3), 1);
        check.same("one more than there are", with(hall, "B", 0, -3), 0);
        for (int way = 0; way < 5; way++) {
            Ballothall single = Houses.withBallots(2, "B", 2);
            check.same("not less than none, by the way " + way, with(single, "B", way, -1000), 0);
            check.same("a kind that is not there, by the way " + way, with(single, "A", way, -1000), 1);
            check.same("no ballots more, by the way " + way, with(single, "A", way, 0), 1);
            single.takeBack(0, 2);
            check.same("a kind with the count 0, by the way " + way, with(single, "B", way, -1), 0);
        }
        check.same("a million less a thousand", with(Houses.full(""), "A>B", 0, -1000), 0);
    }

    private static void answerOfMore() {
        check.sentence(35, "NONE without candidates; -3 - error for a text with an error");
        for (int way = 0; way < 5; way++) {
            check.same("without candidates", new Ballothall().winnerWith(way, 1000), -1);
            check.same("the error 0", with(Check.withCandidates(1), "B", way, 1), -3);
            check.same("the last error", with(Check.withCandidates(1), "A>", way, 0), -5);
        }
        check.sentence(35, "Returns who would win by a way if there were some more ballots of the kind that the text tells");
        check.same("a 31st kind", with(Houses.withKinds(30), "H", 0, 8), 7);
        check.same("a kind with more than a million", with(Houses.full(""), "A>B", 0, 1000), 0);
        Ballothall asked = busy();
        asked.winnerWith(4, 1000);
        check.same("the state", Check.stateOf(asked), Check.stateOf(Houses.busy("")));
        Ballothall undone = busy();
        undone.winnerWith(4, -1000);
        check.same("the changes", Check.pastOf(undone), Check.pastOf(Houses.busy("")));
        Ballothall added = Houses.withKinds(29);
        with(added, "H", 0, 1);
        check.same("no kind came", Check.cast(added, "G", 1), 29);
    }

    // ---- promises 36 and 37

    private static void fiveCandidates() {
        check.sentence(36, "Throws IllegalStateException if there are more than 5 candidates");
        check.same("five", Check.withCandidates(5).gain(0), -1);
        for (int count = 6; count <= 8; count++) {
            int some = count;
            refused(() -> Check.withCandidates(some), count + " candidates", STATE, hall -> hall.gain(0));
        }
        refused(WinnerEdgeTest::full, "a full house", STATE, hall -> hall.gain(4));
        for (int way : WRONG_WAYS) {
            refused(WinnerEdgeTest::full, "a full house and the way " + way, ARGUMENT, hall -> hall.gain(way));
        }
        check.sentence(37, "Throws IllegalStateException if there are more than 5 candidates");
        check.same("five", Check.orThrown(() -> Check.withCandidates(5).gainAt(0, 0)), "NoSuchElementException");
        for (int index : new int[] {-1, 0, 5, 6, MIN, MAX}) {
            refused(() -> Check.withCandidates(6), "gainAt(0, " + index + ")", STATE, hall -> hall.gainAt(0, index));
            refused(() -> Check.withCandidates(6), "gainAt(5, " + index + ")", ARGUMENT, hall -> hall.gainAt(5, index));
            refused(WinnerEdgeTest::busy, "gainAt(-1, " + index + ")", ARGUMENT, hall -> hall.gainAt(-1, index));
        }
        Ballothall undone = Check.withCandidates(6);
        undone.undo();
        check.same("a sixth one that was undone", undone.gain(0), -1);
    }

    /** A wins against C by 3 : 2 first places; the one ballot for B would make C win by lot. */
    private static Ballothall gaining(int candidates) {
        Ballothall hall = Houses.withBallots(candidates, "A", 3, "C", 2, "B>C", 1);
        hall.setLot(false, 0, 50);
        return hall;
    }

    private static void placesOfGain() {
        check.sentence(37, "Throws NoSuchElementException if gain() finds nothing, or there is no such place");
        for (int index : new int[] {-1, 3, 4, 5, MIN, MAX}) {
            refused(() -> gaining(3), "gainAt(0, " + index + ")", ELEMENT, hall -> hall.gainAt(0, index));
        }
        for (int index : new int[] {-1, 5, 6}) {
            refused(() -> gaining(5), "gainAt(0, " + index + ")", ELEMENT, hall -> hall.gainAt(0, index));
        }
        for (int index : new int[] {-1, 0, 1, 2, MAX}) {
            refused(() -> Houses.withBallots(3, "A", 3), "gainAt(0, " + index + ") without gain", ELEMENT,
                hall -> hall.gainAt(0, index));
            refused(Ballothall::new, "gainAt(0, " + index + ") without candidates", ELEMENT, hall -> hall.gainAt(0, index));
        }
        Ballothall hall = gaining(5);
        check.same("the kind", hall.gain(0), 2);
        check.sentence(37, "of several for that kind the first one in lexicographic order of numbers");
        check.same("the first order with C ahead", "" + hall.gainAt(0, 0) + hall.gainAt(0, 1) + hall.gainAt(0, 2)
            + hall.gainAt(0, 3) + hall.gainAt(0, 4), "20134");
        Ballothall two = Houses.withBallots(2, "", 1);
        check.same("a kind without a rank gains nothing", two.gain(0), -1);
        // By points A and C have 14 each; only C > B > A takes a point from A and gives none.
        Ballothall last = Houses.withBallots(3, "A>C", 3, "C", 2);
        check.same("the last order of three", last.gain(3) + " " + last.gainAt(3, 0) + last.gainAt(3, 1) + last.gainAt(3, 2),
            "1 210");
        Ballothall five = Houses.withBallots(5, "A>B>C", 1, "E", 1);
        check.same("the last order of five", five.gain(3) + " " + five.gainAt(3, 0) + five.gainAt(3, 1) + five.gainAt(3, 2)
            + five.gainAt(3, 3) + five.gainAt(3, 4), "1 43210");
        Ballothall first = Houses.withBallots(3, "C>A", 3, "A", 2);
        first.setLot(false, 0, 50);
        check.same("the first order of three, for the first candidate", first.gain(3) + " " + first.gainAt(3, 0)
            + first.gainAt(3, 1) + first.gainAt(3, 2), "1 012");
    }

    private static void approvalOfFalseBallots() {
        check.sentence(36, "a ballot that ranks all candidates strictly (and approves the first one alone)");
        Ballothall hall = Houses.withBallots(3, "A", 3, "B", 3, "B>A|C", 2);
        check.same("B alone instead of B and A", hall.winner(4) + " " + hall.gain(4) + " " + hall.gainAt(4, 0)
            + hall.gainAt(4, 1) + hall.gainAt(4, 2), "0 2 102");
        Ballothall less = Houses.withBallots(3, "A", 4, "B", 3, "B>A|C", 2);
        check.same("one ballot is not enough", less.winner(4) + " " + less.gain(4), "0 -1");
    }

    private static void kindsThatGain() {
        check.sentence(36, "the first ballot kind, by number, with a count above 0");
        check.same("the only ballot of its kind", gaining(3).gain(0), 2);
        Ballothall hall = gaining(3);
        hall.takeBack(2, 1);
        check.same("none of its kind", hall.gain(0), -1);
        Check.cast(hall, "B>C>A", 1);
        check.same("the next kind", hall.gain(0), 3);
        Check.cast(hall, "B>C", 1);
        check.same("of two the first one, after one more", hall.gain(0), -1 + 3);
        Ballothall first = Houses.withBallots(3, "B>C", 1, "A", 3, "C", 2);
        first.setLot(false, 0, 50);
        check.same("the first kind", first.gain(0), 0);
        check.sentence(36, "NONE if there is none");
        for (int way = 0; way < 5; way++) {
            check.same("without candidates", new Ballothall().gain(way), -1);
            check.same("a single one", Houses.withBallots(1, "A", 2, "", 2).gain(way), -1);
            check.same("without ballots", Check.withCandidates(5).gain(way), -1);
            check.same("one ballot that has its way", Houses.withBallots(5, "E>D>C>B>A", 1).gain(way), -1);
        }
        check.sentence(36, "a candidate that the kind ranks ahead of the present winner");
        Ballothall equal = Houses.withBallots(3, "A", 3, "C", 2, "B>C=A", 1);
        equal.setLot(false, 0, 50);
        check.same("one that it ranks equal is no gain", equal.gain(0), -1);
        Ballothall last = Houses.withBallots(3, "A", 3, "C", 2, "B", 1);
        last.setLot(false, 0, 50);
        check.same("nor one that is in the last group with the winner", last.gain(0), -1);
    }

    private static void searchingChangesNothing() {
        check.sentence(36, "Looks for a false ballot that gains");
        for (int way = 0; way < 5; way++) {
            Ballothall looked = gaining(5);
            looked.gain(way);
            Check.orThrown(() -> looked.gainAt(0, 0));
            looked.spoiler(way);
            check.same("the state after the way " + way, Check.stateOf(looked), Check.stateOf(gaining(5)));
            Ballothall undone = gaining(5);
            undone.gain(way);
            undone.spoiler(way);
            check.same("the changes after the way " + way, Check.pastOf(undone), Check.pastOf(gaining(5)));
            Ballothall typed = gaining(5);
            Check.type(typed, "C>A");
            typed.gain(way);
            typed.spoiler(way);
            check.same("the text after the way " + way, typed.ballots(2) + " " + typed.kindAt(3, 2, true) + " "
                + typed.kindAt(3, 0, true), "3 0 1");
        }
    }

    // ---- promise 38

    private static void spoilers() {
        check.sentence(38, "NONE if there is none");
        for (int way = 0; way < 5; way++) {
            check.same("without candidates", new Ballothall().spoiler(way), -1);
            check.same("a single one", Houses.withBallots(1, "A", 1).spoiler(way), -1);
            check.same("two", Houses.withBallots(2, "A", 1, "B", 1).spoiler(way), -1);
            check.same("eight without ballots", Check.withCandidates(8).spoiler(way), -1);
            check.same("in a full house", Check.orThrown(() -> full().spoiler(0)), "-1");
        }
        check.sentence(38, "of several the one with the smallest number");
        Ballothall several = Houses.withBallots(4, "D", 5, "A>C", 3, "B>C", 3, "C", 3);
        check.same("D wins, but not without A or B", several.winner(0) + " " + several.spoiler(0), "3 0");
        Ballothall last = Houses.withBallots(8, "A", 5, "H>G", 3, "G", 3);
        check.same("the last one of eight", last.winner(0) + " " + last.spoiler(0), "0 7");
        last.takeBack(2, 1);
        check.same("a tie that the winner wins by lot", last.spoiler(0), -1);
        last.setLot(false, 6, 0);
        last.setLot(false, 0, 1);
        check.same("a tie that the winner does not win", last.spoiler(0), 7);
        check.sentence(38, "Groups that become empty vanish");
        Ballothall vanish = Houses.withBallots(3, "A", 4, "C>B", 3, "B", 2);
        check.same("B is first then", vanish.spoiler(0), 2);
        Ballothall equal = Houses.withBallots(3, "A", 4, "B=C", 5);
        check.same("B stands alone then", equal.winner(0) + " " + equal.spoiler(0), "0 1");
        check.sentence(38, "if the first group of a ballot without a bar vanishes, nobody is approved by it");
        Ballothall vanished = Houses.withBallots(3, "A>B", 4, "B", 2, "C", 5);
        check.same("C wins, and without A as well", vanished.winner(4) + " " + vanished.spoiler(4), "2 -1");
        Ballothall pair = Houses.withBallots(3, "A=B>C", 4, "B", 2, "C", 5);
        check.same("a group that does not vanish", pair.winner(4) + " " + pair.spoiler(4), "1 -1");
        Ballothall barred = Houses.withBallots(4, "A|B", 4, "B", 2, "C", 5);
        check.same("a bar behind the first group approves nobody else", barred.winner(4) + " " + barred.spoiler(4), "2 -1");
        Ballothall behind = Houses.withBallots(4, "A>B|C", 4, "B", 2, "C", 5, "D", 6);
        check.same("a bar behind another group still approves it", behind.winner(4) + " " + behind.spoiler(4), "1 -1");
        check.sentence(38, "without whom (taken off all ballots, as if they did not exist) another one would win by the way");
        Ballothall circle = Houses.withBallots(3, "A>B>C", 3, "B>C>A", 2, "C>A>B", 2);
        check.same("C beats A, by paths", circle.winner(2) + " " + circle.spoiler(2), "0 1");
        Ballothall points = Houses.withBallots(3, "A>B>C", 3, "B>C>A", 2);
        check.same("points over C do not count", points.winner(3) + " " + points.spoiler(3), "1 2");
        Ballothall rounds = Houses.withBallots(3, "A>B>C", 4, "C>B>A", 3, "B>C>A", 2);
        check.same("B gets A's ballots in the runoff", rounds.winner(1) + " " + rounds.spoiler(1), "2 0");
        Ballothall firsts = Houses.withBallots(8, "A", 5, "H=G>B", 3, "B", 3);
        check.same("neither H nor G alone vanish as a group", firsts.winner(0) + " " + firsts.spoiler(0), "0 -1");
    }

    // ---- promise 39 and section 7

    private static void placesOfSeats() {
        check.sentence(39, "Throws NoSuchElementException if there is none");
        for (int index : new int[] {-1, 4, 8, MIN, MAX}) {
            refused(WinnerEdgeTest::busy, "proportionalAt(" + index + ")", ELEMENT, hall -> hall.proportionalAt(index));
        }
        refused(WinnerEdgeTest::full, "proportionalAt(8)", ELEMENT, hall -> hall.proportionalAt(8));
        refused(Ballothall::new, "proportionalAt(0)", ELEMENT, hall -> hall.proportionalAt(0));
        refused(() -> Check.withCandidates(1), "proportionalAt(1)", ELEMENT, hall -> hall.proportionalAt(1));
        check.same("a single one", Check.withCandidates(1).proportionalAt(0), 0);
        Ballothall none = Check.withCandidates(8);
        Ballothall first = Houses.withBallots(8, "H", 5);
        for (int i = 0; i < 8; i++) {
            check.same("each gets a seat", none.proportionalAt(i), i);
            check.same("then those whom nobody approves", first.proportionalAt(i), i == 0 ? 7 : i - 1);
        }
        check.sentence(39, "of equal ones by lot");
        none.setLot(false, 5, 0);
        check.same("of equal lots the smaller number", none.proportionalAt(0) + " " + none.proportionalAt(1), "0 5");
        none.setLot(false, 0, 1);
        check.same("the smaller lot", none.proportionalAt(0) + " " + none.proportionalAt(1), "5 0");
    }

    private static void weightsOfApprovals() {
        check.sentence(39, "A ballot that approves k candidates with seats has the weight 1 / (k + 1).");
        // The ballots of all but the last one, who has just as much as the weight of the others for the next one.
        String all = "A=B=C=D=E=F=G";
        for (int seated = 1; seated <= 6; seated++) {
            Ballothall hall = Houses.withBallots(8, all, 840, "H", 840 / (seated + 1));
            check.same("equal to the weight behind " + seated, hall.proportionalAt(seated), seated);
            hall.setLot(false, 7, 0);
            hall.setLot(false, 0, 1);
            check.same("by lot", hall.proportionalAt(seated), 7);
            hall.takeBack(1, 1);
            check.same("one less", hall.proportionalAt(seated) == 7, false);
            Check.cast(hall, "H", 2);
            check.same("one more", hall.proportionalAt(seated), 7);
        }
        // 7/8 of 8 ballots and 1 are not less than 7.
        Ballothall eighth = Houses.withBallots(8, "A=B=C=D=E=F=G=H", 8);
        for (int i = 0; i < 8; i++) {
            check.same("all on one ballot", eighth.proportionalAt(i), i);
        }
    }

    // ---- promise 40 and section 8

    private static void safety() {
        check.sentence(40, "NONE without candidates");
        check.same("safeAfter()", new Ballothall().safeAfter(), -1);
        check.same("with empty ballots", Houses.withBallots(0, "", 5).safeAfter(), -1);
        check.sentence(40, "is greater than the number of those that count for any other candidate by more than the number of ballots "
            + "that were not looked at yet (or not less, if the winner wins against that candidate by lot)");
        check.same("without ballots, by lot", Check.withCandidates(8).safeAfter(), 0);
        check.same("a single one", Houses.withBallots(1, "A", 9).safeAfter(), 0);
        Ballothall even = Houses.withBallots(2, "A", 10);
        check.same("half of them by lot", even.safeAfter(), 5);
        even.setLot(false, 1, 0);
        check.same("of equal lots the number", even.safeAfter(), 5);
        even.setLot(false, 0, 1);
        check.same("one more, not by lot", even.safeAfter(), 6);
        Check.cast(even, "A", 1);
        check.same("more than half of eleven", even.safeAfter(), 6);
        even.setLot(false, 0, 0);
        check.same("more than half of eleven, by lot", even.safeAfter(), 6);
        Ballothall last = Houses.withBallots(2, "B", 4, "A", 6);
        last.setLot(false, 0, 9);
        check.same("the very last one", last.safeAfter(), 10);
        last.setLot(false, 0, 0);
        check.same("the last one but one, by lot", last.safeAfter(), 9);
        Ballothall tie = Houses.withBallots(3, "B", 4, "A", 4);
        check.same("a tie", tie.safeAfter(), 8);
        Ballothall nobody = Houses.withBallots(2, "B", 1, "A=B", 4);
        check.same("ballots for nobody", nobody.winner(0) + " " + nobody.safeAfter(), "1 5");
        nobody.setLot(false, 1, 0);
        nobody.setLot(false, 0, 1);
        check.same("and a lot", nobody.safeAfter(), 4);
        check.same("the others are looked at later", Houses.withBallots(2, "A", 10, "B", 4).safeAfter(), 7);
        check.same("those of nobody as well", Houses.withBallots(2, "A", 10, "", 4).safeAfter(), 7);
        Ballothall zero = Houses.withBallots(2, "B", 4, "A", 5);
        zero.takeBack(0, 4);
        check.same("a kind with the count 0", zero.safeAfter(), 3);
        check.same("a million", full().safeAfter(), 500015);
    }

    public static void main(String[] arguments) {
        rangeOfWays();
        fiveWays();
        nobodyWins();
        everybodyEqual();
        tiesByLot();
        firstGroups();
        waysThatCountOnce();
        points();
        placesOfRunoff();
        runoff();
        rangeOfMore();
        atMostAsThereAre();
        answerOfMore();
        fiveCandidates();
        placesOfGain();
        approvalOfFalseBallots();
        kindsThatGain();
        searchingChangesNothing();
        spoilers();
        placesOfSeats();
        weightsOfApprovals();
        safety();
        check.end();
    }
}
