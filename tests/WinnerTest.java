import java.util.NoSuchElementException;

/** Promises 32 to 40: single winners and approvals. */
public final class WinnerTest {
    private static final Class<IndexOutOfBoundsException> INDEX = IndexOutOfBoundsException.class;
    private static final Class<IllegalArgumentException> ARGUMENT = IllegalArgumentException.class;
    private static final Class<IllegalStateException> STATE = IllegalStateException.class;
    private static final Class<NoSuchElementException> ELEMENT = NoSuchElementException.class;
    private static final int[] WRONG_WAYS = {-1, 5, Integer.MAX_VALUE, Integer.MIN_VALUE};
    private static final Check check = new Check("WinnerTest");

    /** A has most first places, C wins the runoff, B wins by paths and points, approvals are 4, 2, 3. */
    private static Ballothall divided() {
        Ballothall hall = Check.withCandidates(3);
        Check.cast(hall, "A>B>C", 4);
        Check.cast(hall, "C>B>A", 3);
        Check.cast(hall, "B>C>A", 2);
        return hall;
    }

    private static String winners(Ballothall hall) {
        StringBuilder winners = new StringBuilder();
        for (int way = 0; way < 5; way++) {
            winners.append(hall.winner(way)).append(' ');
        }
        return winners.toString();
    }

    private static void winners() {
        check.promise(32);
        check.same("without candidates", winners(new Ballothall()), "-1 -1 -1 -1 -1 ");
        Ballothall none = Check.withCandidates(3);
        check.same("without ballots", winners(none), "0 0 0 0 0 ");
        none.setLot(false, 2, 0);
        none.setLot(false, 0, 3);
        check.same("without ballots, by lot", winners(none), "2 2 2 2 2 ");
        Ballothall hall = divided();
        check.same("five ways", winners(hall), "0 2 1 1 0 ");
        Check.cast(hall, "A=B", 3);
        Check.cast(hall, "", 7);
        check.same("alone in the first group", hall.winner(0), 0);
        check.same("approvals of two", hall.winner(4), 0);
        Check.cast(hall, "C>B|A", 2);
        check.same("more first places", hall.winner(0), 2);
        Ballothall tie = Check.withCandidates(3);
        Check.cast(tie, "A>B", 1);
        Check.cast(tie, "B>A", 1);
        check.same("ties by lot", winners(tie), "0 0 0 0 0 ");
        tie.setLot(false, 0, 1);
        check.same("ties of lots by number", winners(tie), "0 0 0 0 0 ");
        tie.setLot(false, 0, 2);
        check.same("ties by a smaller lot", winners(tie), "1 1 1 1 1 ");
        Ballothall last = Check.withCandidates(2);
        Check.cast(last, "A=B", 9);
        Check.cast(last, "B", 1);
        check.same("nobody alone on many", winners(last), "1 1 1 1 1 ");
        for (int way : WRONG_WAYS) {
            check.refused(hall, "winner(" + way + ")", ARGUMENT, () -> hall.winner(way));
        }
    }

    private static void votes() {
        check.promise(33);
        Ballothall hall = divided();
        int[][] due = {{4, 2, 3}, {}, {}, {16, 22, 16}, {4, 2, 3}};
        for (int way = 0; way < 5; way++) {
            for (int c = 0; c < due[way].length; c++) {
                check.same("votesFor(" + way + ", " + c + ")", hall.votesFor(way, c), due[way][c]);
            }
        }
        Check.cast(hall, "A=C|B", 10);
        Check.cast(hall, "", 100);
        check.same("not alone", hall.votesFor(0, 0), 4);
        check.same("equal ones: 1 point for each other one", hall.votesFor(3, 0), 16 + 10 * 3 + 100 * 2);
        check.same("approved together", hall.votesFor(4, 2), 13);
        check.same("not approved", hall.votesFor(4, 1), 2);
        for (int way : new int[] {1, 2, -1, 5, Integer.MAX_VALUE}) {
            check.refused(hall, "votesFor(" + way + ", 0)", ARGUMENT, () -> hall.votesFor(way, 0));
            check.refused(hall, "votesFor(" + way + ", 3)", INDEX, () -> hall.votesFor(way, 3));
        }
        check.refused(hall, "votesFor(0, -1)", INDEX, () -> hall.votesFor(0, -1));
        check.refused(hall, "votesFor(3, 8)", INDEX, () -> hall.votesFor(3, 8));
        hall.candidate();
        check.same("points against one more", hall.votesFor(3, 0), 16 + 30 + 200 + 2 * 19 + 100);
    }

    private static void runoffs() {
        check.promise(34);
        Ballothall hall = divided();
        check.same("the first to go", hall.runoffOut(0), 1);
        check.same("the second", hall.runoffOut(1), 0);
        for (int index : new int[] {-1, 2, 8, Integer.MAX_VALUE, Integer.MIN_VALUE}) {
            check.refused(hall, "runoffOut(" + index + ")", ELEMENT, () -> hall.runoffOut(index));
        }
        Ballothall single = Check.withCandidates(1);
        check.refused(single, "nobody goes", ELEMENT, () -> single.runoffOut(0));
        Ballothall empty = new Ballothall();
        check.refused(empty, "nobody is there", ELEMENT, () -> empty.runoffOut(0));
        Ballothall tie = Check.withCandidates(4);
        tie.setLot(false, 0, 2);
        check.same("by lot", "" + tie.runoffOut(0) + tie.runoffOut(1) + tie.runoffOut(2), "320");
        // B = C on top counts for nobody at first, and for B as soon as C is gone.
        Check.cast(tie, "B=C>A", 5);
        Check.cast(tie, "A", 4);
        Check.cast(tie, "D", 3);
        Check.cast(tie, "B>D", 1);
        check.same("the groups among those who are left", "" + tie.runoffOut(0) + tie.runoffOut(1) + tie.runoffOut(2),
            "230");
        check.same("who is left", tie.winner(1), 1);
    }

    private static Ballothall one(String ballot, int count) {
        Ballothall hall = Check.withCandidates(2);
        Check.cast(hall, ballot, count);
        return hall;
    }

    private static int with(Ballothall hall, String ballot, int way, int count) {
        Check.type(hall, ballot);
        return hall.winnerWith(way, count);
    }

    private static void moreBallots() {
        check.promise(35);
        Ballothall hall = divided();
        String before = Check.stateOf(hall);
        check.same("a tie by lot", with(hall, "C>B>A", 0, 1), 0);
        check.same("two more", with(hall, "C>B>A", 0, 2), 2);
        check.same("two less", with(hall, "A>B>C", 0, -2), 2);
        check.same("more less than there are", with(hall, "A>B>C", 0, -1000), 2);
        check.same("less of a kind that is not there", with(hall, "A", 0, -1000), 0);
        check.same("more of a kind that is not there", with(hall, "B", 0, 3), 1);
        check.same("none", with(hall, "B", 0, 0), 0);
        check.same("one of a kind that is not there", with(Check.withCandidates(2), "B", 0, 1), 1);
        check.same("one less of four", with(hall, "A>B>C", 0, -1), 0);
        check.same("no less than nothing is left", with(one("A", 3), "A", 0, -1000), 0);
        check.same("of points as well", with(one("B", 3), "B", 3, -4), 0);
        check.same("the empty ballot", with(hall, "", 3, 1000), 1);
        check.same("a runoff", with(hall, "B>A", 1, 2), 1);
        check.same("a runoff with less", with(hall, "C>B>A", 1, -2), 0);
        check.same("paths", with(hall, "A=C", 2, 10), 2);
        check.same("points", with(hall, "C=A>B", 3, 7), 0);
        check.same("approvals", with(hall, "A=B=C", 4, 1), 0);
        check.same("approvals ahead of a bar", with(hall, "B>C|A", 4, 5), 2);
        check.same("the state", Check.stateOf(hall), before);
        check.same("no change", hall.undo(), 5);
        Ballothall later = divided();
        later.undo();
        later.candidate();
        Check.cast(later, "C>A", 3);
        check.same("an error", with(later, "A>B>A", 0, 1), -3 - 4);
        check.same("the text is empty then", later.type(0), 0);
        check.same("an early end", with(later, "A>", 0, 1), -5);
        Check.type(later, "C");
        for (int way : WRONG_WAYS) {
            check.refused(later, "winnerWith(" + way + ", 0)", ARGUMENT, () -> later.winnerWith(way, 0));
        }
        for (int count : new int[] {-1001, 1001, Integer.MAX_VALUE, Integer.MIN_VALUE}) {
            check.refused(later, "winnerWith(0, " + count + ")", ARGUMENT, () -> later.winnerWith(0, count));
        }
        check.same("the text is still there", later.winnerWith(0, 1000), 2);
        check.same("and empty then", later.type(0), 0);
        Ballothall empty = new Ballothall();
        check.same("without candidates", empty.winnerWith(0, 5), -1);
        check.same("an error without candidates", with(empty, "A", 0, 5), -3);
        Ballothall full = Check.withCandidates(8);
        for (char first = 'A'; first <= 'F'; first++) {
            for (char second = 'A'; second <= 'F'; second++) {
                if (first != second) {
                    Check.cast(full, first + ">" + second, first == 'F' ? 2 : 1);
                }
            }
        }
        check.same("beyond 30 kinds", with(full, "H", 0, 11), 7);
        check.same("not kept", full.winner(0), 5);
    }

    private static String lie(Ballothall hall, int way) {
        StringBuilder order = new StringBuilder();
        for (int i = 0; i < 3; i++) {
            order.append(hall.gainAt(way, i));
        }
        return order.toString();
    }

    private static void gains() {
        check.promise(36);
        Ballothall hall = divided();
        check.same("A wins the tie with C", hall.gain(0), -1);
        check.same("B instead of C in the runoff", hall.gain(1), 0);
        hall.setLot(false, 0, 50);
        check.same("C instead of A", hall.gain(0), 2);
        check.promise(37);
        check.same("the first order with C ahead", lie(hall, 0), "201");
        hall.setLot(false, 0, 0);
        check.same("the first order with B ahead", lie(hall, 1), "102");
        check.refused(hall, "no gain", ELEMENT, () -> hall.gainAt(0, 0));
        for (int index : new int[] {-1, 3, 5, Integer.MAX_VALUE, Integer.MIN_VALUE}) {
            check.refused(hall, "gainAt(1, " + index + ")", ELEMENT, () -> hall.gainAt(1, index));
        }
        check.promise(36);
        hall.takeBack(0, 4);
        check.same("a kind without ballots gains nothing", hall.gain(1), -1);
        // Points: A 7, B 8: one A>B>C can be told as A>C>B.
        Ballothall points = Check.withCandidates(3);
        Check.cast(points, "A>B>C", 3);
        Check.cast(points, "B>A>C", 2);
        points.setLot(false, 0, 9);
        check.same("A wins by points", points.winner(3), 0);
        check.same("the second kind gains", points.gain(3), 1);
        check.promise(37);
        check.same("by B ahead of C ahead of A", lie(points, 3), "120");
        check.promise(36);
        check.same("approvals", points.gain(4), -1);
        check.same("paths", points.gain(2), -1);
        for (int way : WRONG_WAYS) {
            check.refused(points, "gain(" + way + ")", ARGUMENT, () -> points.gain(way));
            check.refused(points, "gainAt(" + way + ", -1)", ARGUMENT, () -> points.gainAt(way, -1));
        }
        // C would win with one more, but nobody cast that kind; then one does.
        Ballothall single = Check.withCandidates(3);
        Check.cast(single, "A", 4);
        Check.cast(single, "C", 4);
        Check.cast(single, "B>C", 1);
        check.same("the only ballot of a kind", single.gain(0), 2);
        single.takeBack(2, 1);
        check.same("a kind that nobody cast any more", single.gain(0), -1);
        // A 5 and B 5 approvals: who ranks B ahead and approves both, gains by B alone.
        Ballothall approving = Check.withCandidates(3);
        Check.cast(approving, "A", 3);
        Check.cast(approving, "B", 3);
        Check.cast(approving, "B>A|C", 2);
        check.same("by approvals", approving.winner(4) + " " + approving.gain(4), "0 2");
        check.promise(37);
        check.same("it approves the first one alone", lie(approving, 4), "102");
        check.promise(36);
        check.same("without candidates", new Ballothall().gain(0), -1);
        Ballothall empty = new Ballothall();
        empty.ballots(3);
        check.same("without candidates, but with ballots", empty.gain(2), -1);
        Ballothall large = Check.withCandidates(5);
        check.same("five candidates", large.gain(0), -1);
        check.refused(large, "five candidates", ELEMENT, () -> large.gainAt(0, 0));
        large.candidate();
        check.refused(large, "six candidates", STATE, () -> large.gain(0));
        check.refused(large, "six candidates", STATE, () -> large.gainAt(0, -1));
        check.refused(large, "six candidates and a wrong way", ARGUMENT, () -> large.gain(5));
    }

    private static void spoilers() {
        check.promise(38);
        Ballothall hall = divided();
        check.same("without B or C another one wins", hall.spoiler(0), 1);
        check.same("without A, B wins the runoff", hall.spoiler(1), 0);
        check.same("paths", hall.spoiler(2), -1);
        Ballothall second = Check.withCandidates(3);
        Check.cast(second, "A", 4);
        Check.cast(second, "C>B", 3);
        Check.cast(second, "B", 2);
        check.same("C's ballots would count for B", second.spoiler(0), 2);
        // Without A nobody is approved by A > B, but B stands alone in its first group then.
        Ballothall vanished = Check.withCandidates(3);
        Check.cast(vanished, "A>B", 4);
        Check.cast(vanished, "B", 2);
        Check.cast(vanished, "C", 5);
        check.same("C wins by approvals and by first groups", vanished.winner(4) + " " + vanished.winner(0), "2 2");
        check.same("nobody is approved in A's place", vanished.spoiler(4), -1);
        check.same("somebody is first in A's place", vanished.spoiler(0), 0);
        // Without A the bar still approves B.
        Ballothall barred = Check.withCandidates(3);
        Check.cast(barred, "A>B|C", 4);
        Check.cast(barred, "A|C", 2);
        Check.cast(barred, "C", 3);
        check.same("A wins by approvals", barred.winner(4), 0);
        check.same("and without B or C", barred.spoiler(4), -1);
        barred.takeBack(1, 2);
        barred.setLot(false, 1, 0);
        barred.setLot(false, 0, 1);
        check.same("B wins the tie", barred.winner(4), 1);
        check.same("and without A, by 4 to 3", barred.spoiler(4), -1);
        Ballothall pointed = divided();
        check.same("points", pointed.spoiler(3), -1);
        check.same("without candidates", new Ballothall().spoiler(0), -1);
        check.same("a single one", Check.withCandidates(1).spoiler(0), -1);
        for (int way : WRONG_WAYS) {
            check.refused(hall, "spoiler(" + way + ")", ARGUMENT, () -> hall.spoiler(way));
        }
    }

    private static String seated(Ballothall hall, int seats) {
        StringBuilder seated = new StringBuilder();
        for (int i = 0; i < seats; i++) {
            seated.append(hall.proportionalAt(i));
        }
        return seated.toString();
    }

    private static void proportions() {
        check.promise(39);
        Ballothall hall = Check.withCandidates(3);
        check.same("without ballots", seated(hall, 3), "012");
        Check.cast(hall, "A=B", 6);
        Check.cast(hall, "C", 4);
        check.same("half for those who have a seat", seated(hall, 3), "021");
        hall.setLot(false, 1, 0);
        hall.setLot(false, 0, 1);
        check.same("by lot", seated(hall, 3), "120");
        // After A and B the 6 count for C a third each: 2 for C, 2 for D, who wins by lot.
        Ballothall third = Check.withCandidates(4);
        Check.cast(third, "A=B=C", 6);
        Check.cast(third, "D", 2);
        check.same("a third", seated(third, 4), "0123");
        third.setLot(false, 3, 2);
        third.setLot(false, 2, 3);
        check.same("a third is equal to 2", seated(third, 4), "0132");
        Check.cast(third, "D>B|C", 1);
        check.same("7 for B, then half of one for D as well", seated(third, 4), "1032");
        for (int index : new int[] {-1, 4, 8, Integer.MAX_VALUE, Integer.MIN_VALUE}) {
            check.refused(third, "proportionalAt(" + index + ")", ELEMENT, () -> third.proportionalAt(index));
        }
        Ballothall none = new Ballothall();
        check.refused(none, "without candidates", ELEMENT, () -> none.proportionalAt(0));
    }

    private static void safety() {
        check.promise(40);
        check.same("without candidates", new Ballothall().safeAfter(), -1);
        check.same("a single one", Check.withCandidates(1).safeAfter(), 0);
        check.same("without ballots", Check.withCandidates(3).safeAfter(), 0);
        Ballothall hall = divided();
        check.same("A by lot against C", hall.safeAfter(), 8);
        hall.setLot(false, 0, 50);
        check.same("A not by lot", hall.safeAfter(), 9);
        Check.cast(hall, "A>B>C", 6);
        // 15 ballots: after 7 of A's 10, 7 is not more than 8; after 8, 8 is more than 7.
        check.same("within the first kind", hall.safeAfter(), 8);
        hall.setLot(false, 0, 0);
        check.same("8 of 15 all the same", hall.safeAfter(), 8);
        Check.cast(hall, "", 1);
        check.same("half of 16 by lot", hall.safeAfter(), 8);
        hall.setLot(false, 0, 50);
        check.same("half of 16 not by lot", hall.safeAfter(), 9);
        Ballothall late = Check.withCandidates(2);
        Check.cast(late, "B", 100000);
        Check.cast(late, "A=B", 100000);
        Check.cast(late, "A", 99999);
        // After 100000 of B and all of A = B: 100000 against 99999 left.
        check.same("after those who count for nobody", late.safeAfter(), 200000);
        Check.cast(late, "A", 1);
        Check.cast(late, "B", 1);
        check.same("one more of each", late.safeAfter(), 200001);
    }

    public static void main(String[] arguments) {
        winners();
        votes();
        runoffs();
        moreBallots();
        gains();
        spoilers();
        proportions();
        safety();
        check.end();
    }
}
