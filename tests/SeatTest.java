import java.util.NoSuchElementException;

/** Promises 10 to 16: lists, alliances and seats. */
public final class SeatTest {
    private static final Class<IndexOutOfBoundsException> INDEX = IndexOutOfBoundsException.class;
    private static final Class<IllegalArgumentException> ARGUMENT = IllegalArgumentException.class;
    private static final Class<IllegalStateException> STATE = IllegalStateException.class;
    private static final Class<NoSuchElementException> ELEMENT = NoSuchElementException.class;
    private static final Check check = new Check("SeatTest");

    private static Ballothall withLists(int... votes) {
        Ballothall hall = new Ballothall();
        for (int v : votes) {
            hall.list(v);
        }
        return hall;
    }

    private static String order(Ballothall hall, int seats) {
        StringBuilder order = new StringBuilder();
        for (int i = 0; i < seats; i++) {
            order.append(hall.seatAt(i));
        }
        return order.toString();
    }

    private static String got(Ballothall hall, int lists) {
        StringBuilder got = new StringBuilder();
        for (int i = 0; i < lists; i++) {
            got.append(i == 0 ? "" : " ").append(hall.seatsOf(i));
        }
        return got.toString();
    }

    private static void lists() {
        check.promise(10);
        Ballothall hall = new Ballothall();
        for (int i = 0; i < 8; i++) {
            int number = i;
            check.refused(hall, "list(-1)", ARGUMENT, () -> hall.list(-1));
            check.refused(hall, "list(10000001)", ARGUMENT, () -> hall.list(10000001));
            check.same("list()", hall.list(number % 2 == 0 ? 10000000 : 0), number);
        }
        check.refused(hall, "a ninth list", STATE, () -> hall.list(5));
        check.refused(hall, "a ninth list with wrong votes", ARGUMENT, () -> hall.list(-5));
        check.same("its alliance", hall.ally(7, 0), 0);
        check.promise(11);
        check.same("setVotes(0, 5)", hall.setVotes(0, 5), 10000000);
        check.same("setVotes(0, 0)", hall.setVotes(0, 0), 5);
        check.same("setVotes(0, 10000000)", hall.setVotes(0, 10000000), 0);
        check.same("setVotes(0, 10000000)", hall.setVotes(0, 10000000), 10000000);
        check.same("another list", hall.setVotes(1, 1), 0);
        for (int list : new int[] {-1, 8, Integer.MAX_VALUE, Integer.MIN_VALUE}) {
            check.refused(hall, "setVotes(" + list + ", -1)", INDEX, () -> hall.setVotes(list, -1));
            check.refused(hall, "ally(" + list + ", -1)", INDEX, () -> hall.ally(list, -1));
            check.refused(hall, "seatsOf(" + list + ")", INDEX, () -> hall.seatsOf(list));
        }
        for (int votes : new int[] {-1, 10000001, Integer.MAX_VALUE, Integer.MIN_VALUE}) {
            check.refused(hall, "setVotes(1, " + votes + ")", ARGUMENT, () -> hall.setVotes(1, votes));
        }
        check.promise(12);
        check.same("ally(3, 4)", hall.ally(3, 4), 0);
        check.same("ally(3, 1)", hall.ally(3, 1), 4);
        check.same("ally(3, 0)", hall.ally(3, 0), 1);
        check.same("another list", hall.ally(2, 2), 0);
        for (int alliance : new int[] {-1, 5, Integer.MAX_VALUE, Integer.MIN_VALUE}) {
            check.refused(hall, "ally(3, " + alliance + ")", ARGUMENT, () -> hall.ally(3, alliance));
        }
    }

    private static void methods() {
        check.promise(13);
        Ballothall hall = withLists(47000, 16000, 15900, 12000, 6000, 3100);
        String[] due = {"5 2 2 1 0 0", "4 2 2 1 1 0", "5 2 2 1 0 0", "4 2 2 1 1 0", "7 1 1 1 0 0", "5 2 1 1 1 0"};
        String[] orders = {"0012030012", "0120300412", "0012030120", "0123004012", "0000120030", "0000123014"};
        for (int method = 0; method < 6; method++) {
            check.same("seats()", hall.seats(method, 10, 0), 6);
            check.same("the seats by the method " + method, got(hall, 6), due[method]);
            check.same("the order by the method " + method, order(hall, 10), orders[method]);
            check.refused(hall, "the eleventh seat", ELEMENT, () -> hall.seatAt(10));
            check.refused(hall, "the seat -1", ELEMENT, () -> hall.seatAt(-1));
            check.refused(hall, "a far seat", ELEMENT, () -> hall.seatAt(Integer.MAX_VALUE));
        }
        check.same("seats with a threshold", hall.seats(5, 10, 16), 2);
        check.same("the sum of those that take part", got(hall, 6), "7 3 0 0 0 0");
        check.same("the order", order(hall, 10), "0000000111");
        check.same("one seat", hall.seats(0, 1, 0), 6);
        check.same("its list", order(hall, 1), "0");
        check.same("60 seats", hall.seats(1, 60, 20), 1);
        check.same("all of them", got(hall, 6), "60 0 0 0 0 0");
        check.same("the last one", hall.seatAt(59), 0);
        for (int method : new int[] {-1, 6, Integer.MAX_VALUE}) {
            check.refused(hall, "seats(" + method + ", 1, 0)", ARGUMENT, () -> hall.seats(method, 1, 0));
        }
        for (int seats : new int[] {0, 61, -1, Integer.MIN_VALUE}) {
            check.refused(hall, "seats(0, " + seats + ", 0)", ARGUMENT, () -> hall.seats(0, seats, 0));
        }
        for (int threshold : new int[] {-1, 21, Integer.MAX_VALUE}) {
            check.refused(hall, "seats(0, 1, " + threshold + ")", ARGUMENT, () -> hall.seats(0, 1, threshold));
        }
    }

    private static void divisors() {
        // Each row: the second list is just behind or just ahead when the first one has so many seats.
        int[][] rows = {{0, 1, 20000, 10001}, {0, 2, 30000, 10001}, {1, 1, 30000, 10001}, {1, 2, 50000, 10001},
            {2, 1, 30000, 14001}, {2, 2, 50000, 14001}, {2, 3, 70000, 14001}, {3, 1, 40000, 10001}, {3, 2, 70000, 10001},
            {3, 3, 100000, 10001}, {4, 1, 30000, 20001}, {4, 2, 40000, 20001}, {4, 3, 50000, 20001}};
        for (int[] row : rows) {
            Ballothall hall = withLists(row[2], row[3]);
            hall.seats(row[0], row[1] + 1, 0);
            check.same("ahead by the method " + row[0], hall.seatsOf(1), 1);
            hall.setVotes(1, row[3] - 2);
            hall.seats(row[0], row[1] + 1, 0);
            check.same("behind by the method " + row[0], hall.seatsOf(1), 0);
        }
        for (int method = 0; method < 6; method++) {
            Ballothall single = withLists(1, 0);
            check.same("one vote", single.seats(method, 3, 20), 1);
            check.same("its seats", got(single, 2), "3 0");
            single.ally(0, 2);
            single.ally(1, 2);
            single.seats(method, 4, 20);
            check.same("its seats inside", got(single, 2), "4 0");
        }
    }

    private static void thresholds() {
        Ballothall hall = withLists(51, 949, 0, 50);
        hall.setVotes(3, 0);
        check.same("above 5 percent", hall.seats(0, 30, 5), 2);
        hall.setVotes(0, 50);
        hall.setVotes(1, 950);
        check.same("just 5 percent", hall.seats(0, 30, 5), 2);
        check.same("its seats", got(hall, 4), "1 29 0 0");
        hall.setVotes(0, 49);
        hall.setVotes(1, 951);
        check.same("below 5 percent", hall.seats(0, 30, 5), 1);
        check.same("no seats", got(hall, 4), "0 30 0 0");
        hall.setVotes(0, 10000000);
        hall.setVotes(1, 10000000);
        hall.setVotes(2, 10000000);
        check.same("great numbers", hall.seats(5, 60, 20), 3);
        check.same("their seats", got(hall, 4), "20 20 20 0");
        Ballothall empty = withLists(0, 0);
        for (int method = 0; method < 6; method++) {
            check.same("lists without votes", empty.seats(method, 5, 0), 0);
            check.same("no seats", got(empty, 2), "0 0");
            check.refused(empty, "no seat", ELEMENT, () -> empty.seatAt(0));
        }
        check.same("no lists", new Ballothall().seats(5, 5, 0), 0);
    }

    private static void ties() {
        Ballothall hall = withLists(20, 10);
        hall.seats(0, 3, 0);
        check.same("more votes first", order(hall, 3), "001");
        hall.setLot(true, 1, 0);
        hall.setLot(true, 0, 9);
        hall.seats(0, 2, 0);
        check.same("more votes before the lot", order(hall, 2), "00");
        hall.setVotes(1, 20);
        hall.seats(0, 3, 0);
        check.same("then the lot", order(hall, 3), "101");
        hall.setLot(true, 1, 9);
        hall.seats(0, 3, 0);
        check.same("then the number", order(hall, 3), "010");

        // Remainders: 60 and 20 of 80 with 2 seats are 1.5 and 0.5.
        Ballothall rest = withLists(20, 60);
        rest.seats(5, 2, 0);
        check.same("of equal remainders the one with more votes", order(rest, 2), "11");
        Ballothall three = withLists(5, 5, 5);
        three.setLot(true, 0, 50);
        three.setLot(true, 1, 2);
        three.seats(5, 4, 0);
        check.same("then by lot, list by list first", order(three, 4), "0121");
        three.setLot(true, 1, 3);
        three.seats(5, 5, 0);
        check.same("at most one to each", order(three, 5), "01221");
    }

    private static void alliances() {
        Ballothall hall = withLists(40, 35, 25);
        hall.ally(1, 3);
        check.same("an alliance of one", hall.seats(0, 3, 0), 3);
        check.same("its seat", order(hall, 3), "012");
        hall.ally(2, 3);
        check.same("two units", hall.seats(0, 3, 0), 2);
        check.same("the alliance gets two", got(hall, 3), "1 1 1");
        check.promise(15);
        check.refused(hall, "no order with an alliance", ELEMENT, () -> hall.seatAt(0));
        check.promise(13);
        hall.seats(0, 2, 0);
        check.same("its only seat goes to the greater list", got(hall, 3), "1 1 0");
        hall.seats(0, 1, 0);
        check.same("the alliance is ahead", got(hall, 3), "0 1 0");
        hall.setVotes(0, 60);
        hall.seats(0, 1, 0);
        check.same("a tie by the lot of its first list", got(hall, 3), "1 0 0");
        hall.setLot(true, 0, 1);
        hall.setLot(true, 2, 0);
        hall.seats(0, 1, 0);
        check.same("its second list's lot does not help", got(hall, 3), "1 0 0");
        hall.setLot(true, 1, 0);
        hall.seats(0, 1, 0);
        check.same("its first list's lot does", got(hall, 3), "0 1 0");
        hall.setVotes(2, 35);
        hall.setVotes(0, 70);
        hall.setLot(true, 0, 2);
        hall.setLot(true, 1, 1);
        hall.seats(0, 1, 0);
        check.same("inside, a tie by lot", got(hall, 3), "0 0 1");
        hall.ally(0, 4);
        hall.seats(0, 1, 0);
        check.same("another alliance is another unit", got(hall, 3), "0 0 1");
        hall.ally(0, 3);
        check.same("one unit", hall.seats(5, 4, 0), 1);
        check.same("inside by the same method", got(hall, 3), "2 1 1");

        Ballothall zero = withLists(10, 0, 90);
        zero.ally(0, 1);
        zero.ally(1, 1);
        check.same("an alliance with a list without votes", zero.seats(4, 20, 10), 2);
        check.same("that gets nothing", got(zero, 3), "1 0 19");
        check.refused(zero, "it counts as one of two lists", ELEMENT, () -> zero.seatAt(0));
        check.same("below the threshold", zero.seats(4, 20, 11), 1);
        check.same("so that the order is told", zero.seatAt(19), 2);
        zero.setVotes(0, 0);
        check.same("an alliance without votes", zero.seats(4, 20, 0), 1);
        check.same("so that the order is told", zero.seatAt(0), 2);
    }

    private static void keeping() {
        check.promise(14);
        Ballothall hall = withLists(7, 3);
        check.same("before seats()", got(hall, 2), "0 0");
        check.promise(15);
        check.refused(hall, "before seats()", ELEMENT, () -> hall.seatAt(0));
        hall.seats(0, 3, 0);
        hall.setVotes(0, 0);
        hall.ally(0, 1);
        hall.ally(1, 1);
        hall.list(1000);
        check.promise(14);
        check.same("kept", got(hall, 3), "2 1 0");
        check.promise(15);
        check.same("kept", order(hall, 3), "001");
        hall.lossAt(60);
        check.same("also by lossAt()", order(hall, 3), "001");
        hall.seats(0, 2, 0);
        check.same("until the next seats()", got(hall, 3), "0 0 2");
    }

    private static void losses() {
        check.promise(16);
        // 3 seats: 1.29, 1.29, 0.43; 4 seats: 1.71, 1.71, 0.57.
        Ballothall hall = withLists(6, 6, 2);
        check.same("lossAt(60)", hall.lossAt(60), 3);
        check.same("lossAt(3)", hall.lossAt(3), 3);
        check.same("lossAt(2)", hall.lossAt(2), -1);
        check.same("the first list loses", withLists(2, 6, 6).lossAt(60), 3);
        check.same("seats that nobody has", got(hall, 3), "0 0 0");
        check.same("no change", hall.undo(), 2);
        // 47 seats: 29.38, 17.21, 0.42; 48 seats: 30, 17.57, 0.43.
        Ballothall tiny = withLists(70, 41, 1);
        check.same("a list with less than one percent", tiny.lossAt(47), 47);
        check.same("not before", tiny.lossAt(46), -1);
        Ballothall allied = withLists(6, 6, 2, 0);
        allied.ally(2, 1);
        allied.ally(0, 1);
        allied.ally(1, 1);
        check.same("inside an alliance", allied.lossAt(60), 3);
        Ballothall even = withLists(6, 6);
        check.same("no loss of two lists", even.lossAt(60), -1);
        check.same("no lists", new Ballothall().lossAt(60), -1);
        check.same("no votes", withLists(0, 0).lossAt(1), -1);
        for (int most : new int[] {0, -1, 61, Integer.MAX_VALUE, Integer.MIN_VALUE}) {
            check.refused(hall, "lossAt(" + most + ")", ARGUMENT, () -> hall.lossAt(most));
        }
    }

    public static void main(String[] arguments) {
        lists();
        methods();
        divisors();
        thresholds();
        ties();
        alliances();
        keeping();
        losses();
        check.end();
    }
}
