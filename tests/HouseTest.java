import java.util.NoSuchElementException;
import java.util.function.Function;

/** Promises 50 to 54: undo, the checksum, means and shares, errors. */
public final class HouseTest {
    private static final Class<IndexOutOfBoundsException> INDEX = IndexOutOfBoundsException.class;
    private static final Class<NoSuchElementException> ELEMENT = NoSuchElementException.class;
    private static final Check check = new Check("HouseTest");

    /** A house in which each getter tells something. */
    private static Ballothall full() {
        Ballothall hall = Check.withCandidates(4);
        Check.cast(hall, "A>B>C", 40);
        Check.cast(hall, "B=C|A", 35);
        Check.cast(hall, "D>A", 20);
        hall.list(50);
        hall.list(30);
        hall.list(20);
        hall.seats(0, 7, 0);
        hall.transferable(2);
        hall.ward(10, 5, 6);
        hall.ward(20, 7, 2);
        hall.member(4);
        hall.member(3);
        hall.member(2);
        hall.setQuota(5);
        Check.type(hall, "A>");
        hall.writePile(1, 1);
        return hall;
    }

    /** A full house with 20 changes that can be undone. */
    private static Ballothall changed() {
        Ballothall hall = full();
        for (int i = 0; i < 20; i++) {
            hall.setQuota(5);
        }
        return hall;
    }

    private static Ballothall changedBack(Function<Ballothall, Object> change) {
        Ballothall hall = changed();
        change.apply(hall);
        check.same("changes that are left", hall.undo(), 19);
        return hall;
    }

    private static void undone(String what, Function<Ballothall, Object> change) {
        check.same("undo of " + what, Check.stateOf(changedBack(change)), Check.stateOf(changed()));
        check.same("what is hidden after undo of " + what, Check.hiddenOf(changedBack(change)),
            Check.hiddenOf(changed()));
    }

    private static int afterEmptying(Ballothall hall, String ballot, int count) {
        hall.ballots(1);
        int kind = Check.cast(hall, ballot, count);
        Check.type(hall, "A>");
        return kind;
    }

    private static void eachChange() {
        check.promise(50);
        undone("candidate()", Ballothall::candidate);
        undone("setLot(false)", hall -> hall.setLot(false, 0, 99));
        undone("setLot(true)", hall -> hall.setLot(true, 0, 99));
        undone("ballots() of a new kind", hall -> afterEmptying(hall, "C>D", 9));
        undone("ballots() of a kind that is there", hall -> afterEmptying(hall, "D|A", 9));
        undone("takeBack()", hall -> hall.takeBack(0, 40));
        undone("list()", hall -> hall.list(1000));
        undone("setVotes()", hall -> hall.setVotes(1, 3));
        undone("ally()", hall -> hall.ally(1, 2));
        undone("seats()", hall -> hall.seats(5, 20, 20));
        undone("transferable()", hall -> hall.transferable(1));
        undone("ward()", hall -> hall.ward(9, 9, 9));
        undone("member()", hall -> hall.member(9));
        undone("setQuota()", hall -> hall.setQuota(9));
        Ballothall hall = changed();
        check.same("the alliance is the first one again", hall.ally(1, 0), 0);
        hall.undo();
        check.same("a list's lot is the first one again", hall.setLot(true, 0, 0), 0);
        hall.undo();
        check.same("the lot is the first one again", hall.setLot(false, 0, 1), 0);
        hall.undo();
        hall.candidate();
        hall.setLot(false, 4, 77);
        hall.undo();
        hall.undo();
        hall.candidate();
        check.same("a candidate that comes again has its own lot", hall.setLot(false, 4, 4), 4);
        hall.list(1);
        hall.setLot(true, 3, 77);
        hall.ally(3, 3);
        hall.undo();
        hall.undo();
        hall.undo();
        hall.list(1);
        check.same("a list that comes again has its own lot", hall.setLot(true, 3, 3), 3);
        check.same("and no alliance", hall.ally(3, 0), 0);
    }

    private static void howMany() {
        Ballothall hall = new Ballothall();
        check.same("no change", hall.undo(), -1);
        for (int i = 0; i < 5; i++) {
            hall.candidate();
        }
        check.same("the first of five", hall.undo(), 4);
        check.same("the last but one", hall.undo() + hall.undo() + hall.undo(), 3 + 2 + 1);
        check.same("the last one", hall.undo(), 0);
        check.same("no more", hall.undo(), -1);
        check.same("still no more", hall.undo(), -1);
        for (int quota = 2; quota <= 30; quota++) {
            hall.setQuota(quota);
        }
        for (int left = 19; left >= 15; left--) {
            check.same("undo()", hall.undo(), left);
        }
        check.same("a change that makes nothing different", hall.setQuota(25), 25);
        for (int left = 15; left >= 0; left--) {
            check.same("undo()", hall.undo(), left);
        }
        check.same("only 20", hall.undo(), -1);
        check.same("the quota before them", hall.setQuota(1), 10);
        check.same("one change", hall.undo(), 0);
        hall.candidate();
        Check.cast(hall, "A>A", 1);
        check.refused(hall, "a change that is refused", IllegalArgumentException.class, () -> hall.setQuota(0));
        hall.type(0x41);
        hall.winnerWith(0, 5);
        hall.lossAt(9);
        check.same("what is no change", hall.undo(), 0);
    }

    private static void results() {
        Ballothall hall = Check.withCandidates(2);
        Check.cast(hall, "B", 3);
        hall.list(5);
        hall.transferable(1);
        hall.seats(0, 1, 0);
        for (int i = 0; i < 12; i++) {
            hall.takeBack(0, 1);
            Check.cast(hall, "A", 1 + i);
            hall.transferable(2);
            hall.seats(i % 5, 2 + i, 0);
            hall.undo();
            hall.undo();
            hall.undo();
            hall.undo();
            check.same("the count before", hall.steps() + " " + hall.electedAt(0) + " " + hall.quota(), "1 1 2");
            check.same("the seats before", hall.seatsOf(0), 1);
        }
        hall.undo();
        check.refused(hall, "no seats", ELEMENT, () -> hall.seatAt(0));
        hall.undo();
        check.refused(hall, "no count", ELEMENT, () -> hall.electedAt(0));
        check.same("quota()", hall.quota(), -1);
        for (int i = 0; i < 30; i++) {
            hall.transferable(1 + i % 3);
        }
        for (int i = 29; i >= 10; i--) {
            check.same("the count " + i + " of many", hall.quota(), 3 / (2 + i % 3) + 1);
            check.same("undo()", hall.undo(), i - 10);
        }
        check.same("the eleventh last one", hall.quota(), 3 / 2 + 1);
        for (int i = 0; i < 30; i++) {
            hall.seats(0, 1 + i, 0);
        }
        for (int i = 29; i >= 10; i--) {
            check.same("the seats " + i + " of many", hall.seatsOf(0), 1 + i);
            check.same("undo()", hall.undo(), i - 10);
        }
        check.same("the eleventh last one", hall.seatsOf(0), 10);
        for (int i = 0; i < 50; i++) {
            hall.transferable(1 + i % 3);
            hall.seats(0, 1 + i, 0);
        }
        for (int i = 49; i >= 40; i--) {
            check.same("the count " + i, hall.quota(), 3 / (2 + i % 3) + 1);
            check.same("the seats " + i, hall.seatsOf(0), 1 + i);
            hall.undo();
            hall.undo();
        }
        check.same("no more", hall.undo(), -1);
        check.same("the count that stays", hall.quota(), 3 / 2 + 1);
        check.same("the seats that stay", hall.seatsOf(0), 40);
    }

    private static void kindsThatComeAgain() {
        check.promise(50);
        Ballothall hall = Check.withCandidates(3);
        Check.cast(hall, "A", 5);
        hall.transferable(1);
        Check.cast(hall, "B>A", 99);
        Check.cast(hall, "C>A", 77);
        hall.undo();
        hall.undo();
        check.refused(hall, "countOf(1)", INDEX, () -> hall.countOf(1));
        check.same("allBallots()", hall.allBallots(), 5);
        check.same("meanRank(1)", hall.meanRank(1), 1.0);
        check.same("solidQuotas(2)", hall.solidQuotas(2), 0);
        check.same("winner(0)", hall.winner(0), 0);
        check.same("transferable(1)", hall.transferable(1), 1);
        check.same("a pile", Check.pile(hall, 0, 1), "0");
        check.same("another kind with its number", Check.cast(hall, "B=C", 3), 1);
        check.same("its count", hall.countOf(1), 3);
        check.same("its rank", hall.kindAt(1, 0, true), 1);
        check.same("errors()", hall.errors(), 0);
    }

    private static void sums() {
        check.promise(51);
        Ballothall hall = new Ballothall();
        check.same("nothing", hall.checksum(), 0);
        hall.member(7);
        check.same("a member", hall.checksum(), 7);
        hall.candidate();
        hall.candidate();
        Check.cast(hall, "B", 5);
        Check.cast(hall, "A", 2);
        hall.list(11);
        hall.list(6);
        hall.seats(0, 3, 0);
        hall.transferable(2);
        hall.member(8);
        long due = 0;
        for (int number : new int[] {5, 2, 11, 2, 6, 1, 1, 0, 7, 8}) {
            due = 31 * due + number;
        }
        check.same("in order", hall.checksum(), due);
        for (int i = 0; i < 6; i++) {
            hall.list(10000000 - i);
        }
        due = 0;
        for (int number : new int[] {5, 2, 11, 2, 6, 1, 10000000, 0, 9999999, 0, 9999998, 0, 9999997, 0, 9999996, 0, 9999995,
            0, 1, 0, 7, 8}) {
            due = 31 * due + number;
        }
        check.same("wrapped", hall.checksum(), due);

        check.promise(52);
        hall.candidate();
        Check.cast(hall, "A=C>B", 4);
        Check.cast(hall, "", 3);
        check.same("meanRank(0)", hall.meanRank(0), 5.0 / 14.0);
        check.same("meanRank(1)", hall.meanRank(1), 6.0 / 14.0);
        check.same("meanRank(2)", hall.meanRank(2), 7.0 / 14.0);
        check.same("without ballots", Check.withCandidates(2).meanRank(1), 0.0);
        for (int wrong : new int[] {-1, 3, 8, Integer.MAX_VALUE, Integer.MIN_VALUE}) {
            check.refused(hall, "meanRank(" + wrong + ")", INDEX, () -> hall.meanRank(wrong));
        }

        check.promise(53);
        check.same("seatShare(0)", hall.seatShare(0), 2.0f / 3.0f);
        check.same("seatShare(1)", hall.seatShare(1), 1.0f / 3.0f);
        check.same("seatShare(2)", hall.seatShare(2), 0.0f);
        for (int wrong : new int[] {-1, 8, Integer.MAX_VALUE, Integer.MIN_VALUE}) {
            check.refused(hall, "seatShare(" + wrong + ")", INDEX, () -> hall.seatShare(wrong));
        }
        Ballothall none = new Ballothall();
        none.list(0);
        check.same("before seats()", none.seatShare(0), 0.0f);
        none.seats(0, 5, 0);
        check.same("no seats were given", none.seatShare(0), 0.0f);
    }

    private static void errors() {
        check.promise(54);
        check.same("a full house", full().errors(), 0);
        Ballothall hall = full();
        hall.ally(0, 1);
        hall.ally(1, 1);
        hall.seats(0, 2, 0);
        hall.ally(0, 0);
        hall.ally(1, 0);
        check.same("lists that had an alliance", hall.errors(), 0);
        hall.seats(0, 4, 0);
        hall.setVotes(2, 1000);
        check.same("a list with other votes than then", hall.errors(), 0);
        hall.list(100);
        check.same("a list that came later", hall.errors(), 0);
        hall.transferable(3);
        hall.candidate();
        Check.type(hall, "x");
        hall.ballots(1);
        Check.cast(hall, "E", 100000);
        check.same("a candidate that came later", hall.errors(), 0);
        for (int member = 3; member < 12; member++) {
            hall.member(member);
            check.same("with " + member + " members", hall.errors(), 0);
        }
        hall.setQuota(12000);
        check.same("a council that can't decide", hall.errors(), 0);
    }

    public static void main(String[] arguments) {
        eachChange();
        howMany();
        results();
        kindsThatComeAgain();
        sums();
        errors();
        check.end();
    }
}
