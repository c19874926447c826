import java.util.NoSuchElementException;
import java.util.function.Function;
import java.util.function.Supplier;

/** The boundary cases of section 3 and of promises 10 to 16, sentence by sentence. */
public final class SeatEdgeTest {
    private static final Class<IndexOutOfBoundsException> INDEX = IndexOutOfBoundsException.class;
    private static final Class<IllegalArgumentException> ARGUMENT = IllegalArgumentException.class;
    private static final Class<IllegalStateException> STATE = IllegalStateException.class;
    private static final Class<NoSuchElementException> ELEMENT = NoSuchElementException.class;
    private static final int MIN = Integer.MIN_VALUE;
    private static final int MAX = Integer.MAX_VALUE;
    private static final int MOST_VOTES = 10000000;
    private static final Check check = new Check("SeatEdgeTest");

    private static void refused(Supplier<Ballothall> maker, String what, Class<? extends RuntimeException> due,
            Function<Ballothall, Object> call) {
        check.refused(maker, what, due, call);
    }

    private static Ballothall busy() {
        return Houses.busy("B>C");
    }

    private static Ballothall full() {
        return Houses.full("B>A");
    }

    private static String order(Ballothall hall, int seats) {
        StringBuilder order = new StringBuilder();
        for (int i = 0; i < seats; i++) {
            order.append(hall.seatAt(i));
        }
        return order.toString();
    }

    private static String got(Ballothall hall, int lists) {
        StringBuilder got = new StringBuilder();
        for (int i = 0; i < lists; i++) {
            got.append(i == 0 ? "" : " ").append(hall.seatsOf(i));
        }
        return got.toString();
    }

    /** The divisor of a method for a list that has some seats already, in tenths. */
    private static int divisor(int method, int had) {
        switch (method) {
            case 0: return 10 * (had + 1);
            case 1: return 10 * (2 * had + 1);
            case 2: return had == 0 ? 14 : 10 * (2 * had + 1);
            case 3: return 10 * (3 * had + 1);
            default: return 10 * (had + 2);
        }
    }

    // ---- promises 10 to 12

    private static void eightLists() {
        check.sentence(10, "Throws IllegalStateException if there are 8");
        Ballothall hall = new Ballothall();
        for (int i = 0; i < 8; i++) {
            check.same("list()", hall.list(i), i);
        }
        refused(() -> Houses.withLists(1, 2, 3, 4, 5, 6, 7, 8), "a ninth", STATE, house -> house.list(9));
        refused(SeatEdgeTest::full, "a ninth in a full house", STATE, house -> house.list(0));
        refused(SeatEdgeTest::full, "a ninth with wrong votes", ARGUMENT, house -> house.list(-1));
        refused(SeatEdgeTest::full, "a ninth with too many votes", ARGUMENT, house -> house.list(MOST_VOTES + 1));
        hall.undo();
        check.same("the eighth again", hall.list(5), 7);
        check.same("its votes", hall.setVotes(7, 0), 5);
    }

    private static void rangeOfVotes() {
        check.sentence(10, "votes: 0 to 10000000");
        Ballothall hall = new Ballothall();
        check.same("the least", hall.list(0), 0);
        check.same("the greatest", hall.list(MOST_VOTES), 1);
        for (int votes : new int[] {-1, MOST_VOTES + 1, MIN, MAX}) {
            refused(Ballothall::new, "list(" + votes + ")", ARGUMENT, house -> house.list(votes));
            refused(SeatEdgeTest::busy, "list(" + votes + ")", ARGUMENT, house -> house.list(votes));
        }
        check.sentence(11, "votes: 0 to 10000000");
        check.same("the greatest", hall.setVotes(0, MOST_VOTES), 0);
        check.same("the least", hall.setVotes(0, 0), MOST_VOTES);
        check.same("the ones before", hall.setVotes(0, 1) + " " + hall.setVotes(1, 1), "0 10000000");
        for (int votes : new int[] {-1, MOST_VOTES + 1, MIN, MAX}) {
            refused(SeatEdgeTest::busy, "setVotes(0, " + votes + ")", ARGUMENT, house -> house.setVotes(0, votes));
        }
    }

    private static void firstAlliance() {
        check.sentence(10, "Adds a list with the alliance 0.");
        Ballothall hall = Houses.withLists(1, 2, 3, 4, 5, 6, 7, 8);
        for (int i = 0; i < 8; i++) {
            check.same("its alliance", hall.ally(i, 0), 0);
        }
        Ballothall again = Houses.withLists(5);
        again.ally(0, 4);
        again.undo();
        again.undo();
        again.list(6);
        check.same("of a list that comes again", again.ally(0, 0), 0);
    }

    private static void rangeOfAlliances() {
        check.sentence(12, "alliance: 0 to 4");
        Ballothall hall = busy();
        check.same("the greatest", hall.ally(0, 4), 0);
        check.same("the least", hall.ally(0, 0), 4);
        check.same("the one before", hall.ally(0, 3) + " " + hall.ally(0, 0), "0 3");
        for (int alliance : new int[] {-1, 5, MIN, MAX}) {
            refused(SeatEdgeTest::busy, "ally(0, " + alliance + ")", ARGUMENT, house -> house.ally(0, alliance));
        }
    }

    private static void numbersOfLists() {
        check.sentence(11, "Throws IndexOutOfBoundsException see section 1");
        for (int list : new int[] {-1, 3, 8, MIN, MAX}) {
            refused(SeatEdgeTest::busy, "setVotes(" + list + ", 0)", INDEX, hall -> hall.setVotes(list, 0));
            refused(SeatEdgeTest::busy, "setVotes(" + list + ", -1)", INDEX, hall -> hall.setVotes(list, -1));
            refused(SeatEdgeTest::busy, "ally(" + list + ", 0)", INDEX, hall -> hall.ally(list, 0));
            refused(SeatEdgeTest::busy, "ally(" + list + ", 5)", INDEX, hall -> hall.ally(list, 5));
            refused(SeatEdgeTest::busy, "seatsOf(" + list + ")", INDEX, hall -> hall.seatsOf(list));
            refused(SeatEdgeTest::busy, "seatShare(" + list + ")", INDEX, hall -> hall.seatShare(list));
        }
        for (int list : new int[] {-1, 8, 9}) {
            refused(SeatEdgeTest::full, "setVotes(" + list + ", 0)", INDEX, hall -> hall.setVotes(list, 0));
            refused(SeatEdgeTest::full, "ally(" + list + ", 0)", INDEX, hall -> hall.ally(list, 0));
            refused(SeatEdgeTest::full, "seatsOf(" + list + ")", INDEX, hall -> hall.seatsOf(list));
            refused(SeatEdgeTest::full, "seatShare(" + list + ")", INDEX, hall -> hall.seatShare(list));
        }
        Ballothall hall = full();
        check.same("the eighth", hall.setVotes(7, 5) + " " + hall.ally(7, 0) + " " + hall.seatsOf(7), "1539 4 9");
    }

    // ---- section 3: units

    private static void allianceZeroIsNone() {
        check.sentence(0, "lists with the same alliance above 0 form an alliance");
        Ballothall hall = Houses.withLists(10, 10, 10, 10);
        check.same("with the alliance 0 each is a unit", hall.seats(0, 4, 0), 4);
        hall.ally(0, 1);
        hall.ally(1, 2);
        hall.ally(2, 3);
        hall.ally(3, 4);
        check.same("in four alliances each is a unit", hall.seats(0, 4, 0), 4);
        check.same("an alliance of one list has an order", order(hall, 4), "0123");
        hall.ally(3, 1);
        check.same("the first and the last one together", hall.seats(0, 4, 0), 3);
        hall.ally(0, 4);
        hall.ally(1, 4);
        hall.ally(2, 4);
        hall.ally(3, 4);
        check.same("all together", hall.seats(0, 4, 0), 1);
        check.same("with a seat each", got(hall, 4), "1 1 1 1");
    }

    private static void unitsOfAlliances() {
        check.sentence(0, "The number of a unit is the smallest number of its lists, its lot is the lot of this list");
        Ballothall hall = Houses.withLists(20, 10, 10);
        hall.ally(1, 1);
        hall.ally(2, 1);
        hall.seats(0, 1, 0);
        check.same("a tie by lot", got(hall, 3), "1 0 0");
        hall.setLot(true, 2, 0);
        hall.setLot(true, 0, 1);
        hall.seats(0, 1, 0);
        check.same("of equal lots the smaller number", got(hall, 3), "1 0 0");
        hall.setLot(true, 0, 2);
        hall.seats(0, 1, 0);
        check.same("the lot of its first list, then that of its second one", got(hall, 3), "0 0 1");
        Ballothall first = Houses.withLists(5, 10, 5);
        first.ally(0, 1);
        first.ally(2, 1);
        first.setLot(true, 0, 1);
        first.setLot(true, 1, 1);
        first.seats(0, 1, 0);
        check.same("the number of its first list", got(first, 3), "1 0 0");
        check.sentence(0, "its votes are those of its lists together");
        first.setVotes(1, 11);
        first.seats(0, 1, 0);
        check.same("10 are less than 11", got(first, 3), "0 1 0");
        first.setVotes(2, 7);
        first.seats(0, 1, 0);
        check.same("12 are more than 11", got(first, 3), "0 0 1");
    }

    // ---- section 3: divisors

    private static void eachDivisor() {
        check.sentence(0, "The methods are: 0 the divisors 1, 2, 3 and so on; 1 the divisors 1, 3, 5; 2 the divisors 1.4, 3, 5; "
            + "3 the divisors 1, 4, 7; 4 the divisors 2, 3, 4 (each continued in the same steps); 5 largest remainders.");
        for (int method = 0; method < 5; method++) {
            for (int had = 1; had < 60; had++) {
                int unit = MOST_VOTES / divisor(method, had);
                int more = divisor(method, had) * unit;
                int less = divisor(method, 0) * unit;
                Ballothall hall = Houses.withLists(less, more);
                hall.seats(method, had + 1, 0);
                check.same("of equal quotients to more votes, method " + method, got(hall, 2), "0 " + (had + 1));
                hall.setVotes(0, less + 1);
                hall.seats(method, had + 1, 0);
                check.same("a greater quotient, method " + method, got(hall, 2), "1 " + had);
                check.same("is given at last, method " + method, hall.seatAt(had), 0);
            }
        }
    }

    private static void equalQuotients() {
        check.sentence(0, "of equal quotients to the unit with more votes, then by lot");
        for (int method = 0; method < 5; method++) {
            int more = divisor(method, 1);
            int less = divisor(method, 0);
            Ballothall hall = Houses.withLists(less, more, less);
            hall.setLot(true, 0, 0);
            hall.setLot(true, 1, 99);
            hall.setLot(true, 2, 0);
            hall.seats(method, 4, 0);
            check.same("more votes first, then the smaller number", order(hall, 4), "1102");
            hall.setLot(true, 0, 1);
            hall.seats(method, 3, 0);
            check.same("then by lot", order(hall, 3), "112");
        }
    }

    // ---- section 3: remainders

    private static void roundedDown() {
        check.sentence(0, "each unit gets votes * s divided by V, rounded down");
        Ballothall hall = Houses.withLists(30, 20, 10);
        hall.seats(5, 6, 0);
        check.same("without remainders", order(hall, 6), "000112");
        hall.setVotes(0, 31);
        hall.setVotes(2, 9);
        hall.seats(5, 6, 0);
        check.same("3.1, 2 and 0.9", order(hall, 6), "000112");
        hall.setVotes(0, 29);
        hall.setVotes(2, 11);
        hall.seats(5, 6, 0);
        check.same("2.9, 2 and 1.1", order(hall, 6), "001120");
        Ballothall large = Houses.withLists(MOST_VOTES, MOST_VOTES, MOST_VOTES, MOST_VOTES, MOST_VOTES, MOST_VOTES,
            MOST_VOTES, MOST_VOTES);
        large.seats(5, 60, 0);
        check.same("seven and a half each", got(large, 8), "8 8 8 8 7 7 7 7");
        for (int i = 1; i < 8; i++) {
            large.ally(i, 1);
        }
        large.seats(5, 60, 0);
        check.same("52.5 and 7.5: the alliance has more votes", got(large, 8), "7 8 8 8 8 7 7 7");
    }

    private static void equalRemainders() {
        check.sentence(0, "the greatest remainders of this division, of equal ones to the unit with more votes, then by lot, "
            + "at most one to each");
        Ballothall more = Houses.withLists(10, 30, 20);
        more.setLot(true, 1, 50);
        more.seats(5, 1, 0);
        check.same("no remainder is the same as another", order(more, 1), "1");
        more.setVotes(2, 0);
        more.seats(5, 2, 0);
        check.same("0.5 and 1.5: to more votes", order(more, 2), "11");
        more.setVotes(0, 30);
        more.seats(5, 3, 0);
        check.same("1.5 each: to the smaller lot", order(more, 3), "010");
        more.setLot(true, 0, 50);
        more.seats(5, 3, 0);
        check.same("of equal lots to the smaller number", order(more, 3), "010");
        more.setLot(true, 0, 51);
        more.seats(5, 3, 0);
        check.same("to the other one", order(more, 3), "011");
        Ballothall each = Houses.withLists(1, 1, 1, 1, 1, 1, 1, 1);
        each.setLot(true, 7, 0);
        each.seats(5, 15, 0);
        check.same("one whole seat each, then seven by lot", order(each, 15), "012345670712345");
        each.seats(5, 7, 0);
        check.same("no whole seats", order(each, 7), "0712345");
    }

    // ---- section 3: thresholds

    private static void threshold() {
        check.sentence(0, "A unit whose votes times 100 are less than the threshold times all votes");
        for (int percent = 1; percent <= 20; percent++) {
            Ballothall hall = Houses.withLists(percent * 10, 1000 - percent * 10, 0);
            check.same("just enough", hall.seats(0, 10, percent), 2);
            hall.setVotes(0, percent * 10 - 1);
            hall.setVotes(2, 1);
            check.same("one vote too few", hall.seats(5, 10, percent), 1);
            check.same("the seats", got(hall, 3), "0 10 0");
        }
        Ballothall none = Houses.withLists(1, MOST_VOTES);
        check.same("without a threshold one vote is enough", none.seats(0, 1, 0), 2);
        check.same("with 1 percent it is not", none.seats(0, 1, 1), 1);
        Ballothall large = Houses.withLists(MOST_VOTES, MOST_VOTES, MOST_VOTES, MOST_VOTES, MOST_VOTES, MOST_VOTES,
            MOST_VOTES, MOST_VOTES);
        check.same("12.5 percent each and 12", large.seats(0, 8, 12), 8);
        for (int i = 0; i < 8; i++) {
            large.ally(i, 1);
        }
        check.same("80000000 votes and 20 percent", large.seats(0, 8, 20), 1);
        check.same("their seats", got(large, 8), "1 1 1 1 1 1 1 1");
    }

    private static void thresholdOfAlliances() {
        check.sentence(0, "A unit is an alliance, or a list with the alliance 0.");
        Ballothall hall = Houses.withLists(50, 50, 900);
        check.same("5 percent each", hall.seats(0, 9, 10), 1);
        hall.ally(0, 1);
        hall.ally(1, 1);
        check.same("10 percent together", hall.seats(0, 10, 10), 2);
        check.same("their seats", got(hall, 3), "1 0 9");
        hall.setVotes(1, 49);
        hall.setVotes(2, 901);
        check.same("less than 10 percent together", hall.seats(0, 10, 10), 1);
        check.same("there is an order, since the alliance took no part", order(hall, 10), "2222222222");
        hall.ally(2, 2);
        check.same("an alliance of one", hall.seats(0, 10, 20), 1);
        check.same("its seats", got(hall, 3), "0 0 10");
    }

    private static void withoutVotes() {
        check.sentence(0, "a unit without votes, takes no part");
        for (int method = 0; method < 6; method++) {
            Ballothall hall = Houses.withLists(0, 1, 0);
            check.same("one vote", hall.seats(method, 60, 0), 1);
            check.same("all seats", got(hall, 3), "0 60 0");
            check.same("the last one", hall.seatAt(59), 1);
            hall.ally(0, 1);
            hall.ally(2, 1);
            check.same("an alliance without votes", hall.seats(method, 60, 0), 1);
            check.same("does not hide the order", hall.seatAt(0), 1);
        }
    }

    private static void sumOfThoseThatTakePart() {
        check.sentence(0, "V is the sum of those that take part");
        Ballothall hall = Houses.withLists(42, 42, 16);
        check.same("two take part", hall.seats(5, 10, 17), 2);
        check.same("of 84 votes, not of 100", order(hall, 10), "0000011111");
        check.same("three take part", hall.seats(5, 10, 16), 3);
        check.same("of 100 votes", order(hall, 10), "0000111122");
    }

    private static void nobodyTakesPart() {
        check.sentence(0, "If no unit takes part, nobody gets a seat.");
        for (int method = 0; method < 6; method++) {
            int itsMethod = method;
            Supplier<Ballothall> eighths = () -> {
                Ballothall hall = Houses.withLists(10, 10, 10, 10, 10, 10, 10, 10);
                check.same("units of eight", hall.seats(itsMethod, 60, 13), 0);
                return hall;
            };
            check.same("no seats", got(eighths.get(), 8), "0 0 0 0 0 0 0 0");
            refused(eighths, "seatAt(0)", ELEMENT, hall -> hall.seatAt(0));
            check.same("no share", eighths.get().seatShare(0), 0.0f);
            Ballothall zero = Houses.withLists(0, 0);
            zero.ally(0, 1);
            zero.ally(1, 1);
            check.same("without votes", zero.seats(method, 60, 20) + " " + got(zero, 2), "0 0 0");
            check.same("without lists", new Ballothall().seats(method, 1, 0), 0);
        }
    }

    private static void insideAlliances() {
        check.sentence(0, "The seats of an alliance are distributed among its lists with votes in the same way by the same "
            + "method.");
        int[] votes = {0, 53, 25, 22};
        String[] due = {"0 6 2 2", "0 5 3 2", "0 5 3 2", "0 5 3 2", "0 6 2 2", "0 5 3 2"};
        for (int method = 0; method < 6; method++) {
            Ballothall hall = Houses.withLists(votes);
            for (int i = 0; i < 4; i++) {
                hall.ally(i, 3);
            }
            check.same("one unit", hall.seats(method, 10, 20), 1);
            check.same("inside by the method " + method, got(hall, 4), due[method]);
        }
        Ballothall lots = Houses.withLists(10, 10, 20, 60);
        for (int i = 0; i < 3; i++) {
            lots.ally(i, 1);
        }
        lots.setLot(true, 0, 5);
        lots.setLot(true, 1, 0);
        lots.setLot(true, 2, 90);
        lots.seats(4, 5, 0);
        check.same("two seats inside: to more votes, though the lot is greater", got(lots, 4), "0 0 2 3");
        lots.seats(1, 5, 0);
        check.same("two seats inside: then by lot", got(lots, 4), "0 1 1 3");
        lots.setLot(true, 0, 0);
        lots.seats(1, 5, 0);
        check.same("then by number", got(lots, 4), "1 0 1 3");
        Ballothall small = Houses.withLists(1, 1, 98);
        small.ally(0, 2);
        small.ally(1, 2);
        check.same("an alliance that takes part", small.seats(0, 5, 2), 2);
        check.same("and gets nothing", got(small, 3), "0 0 5");
    }

    // ---- promise 13

    private static void rangesOfSeats() {
        check.sentence(13, "method: 0 to 5");
        check.same("the least", busy().seats(0, 5, 5), 3);
        check.same("the greatest", busy().seats(5, 5, 5), 3);
        for (int method : new int[] {-1, 6, MIN, MAX}) {
            refused(SeatEdgeTest::busy, "seats(" + method + ", 5, 5)", ARGUMENT, hall -> hall.seats(method, 5, 5));
        }
        check.sentence(13, "seats: 1 to 60");
        for (int method = 0; method < 6; method++) {
            Ballothall hall = Houses.withLists(5, 5);
            hall.seats(method, 1, 0);
            check.same("the least", got(hall, 2), "1 0");
            hall.seats(method, 60, 0);
            check.same("the greatest", got(hall, 2), "30 30");
            check.same("the last ones", hall.seatAt(58) + hall.seatAt(59), method == 5 ? 2 : 1);
        }
        for (int seats : new int[] {0, -1, 61, MIN, MAX}) {
            refused(SeatEdgeTest::busy, "seats(0, " + seats + ", 5)", ARGUMENT, hall -> hall.seats(0, seats, 5));
            refused(SeatEdgeTest::full, "seats(5, " + seats + ", 5)", ARGUMENT, hall -> hall.seats(5, seats, 5));
        }
        check.sentence(13, "threshold: 0 to 20, in percent");
        check.same("the least", busy().seats(0, 5, 0), 3);
        check.same("the greatest", busy().seats(0, 5, 20), 3);
        for (int threshold : new int[] {-1, 21, MIN, MAX}) {
            refused(SeatEdgeTest::busy, "seats(0, 5, " + threshold + ")", ARGUMENT, hall -> hall.seats(0, 5, threshold));
        }
    }

    private static void unitsThatTakePart() {
        check.sentence(13, "Returns the number of units that take part.");
        Ballothall hall = Houses.withLists(1, 2, 3, 4, 5, 6, 7, 8);
        check.same("eight", hall.seats(0, 1, 0), 8);
        check.same("three have a sixth of 36", hall.seats(0, 1, 16), 3);
        check.same("two have more than 17 percent", hall.seats(0, 1, 17), 2);
        hall.ally(0, 1);
        hall.ally(7, 1);
        check.same("seven", hall.seats(0, 1, 0), 7);
    }

    // ---- promises 14 and 15

    private static void beforeSeats() {
        check.sentence(14, "at first, and for lists that came later, there are no seats");
        Ballothall hall = Houses.withLists(7, 3);
        check.same("at first", got(hall, 2), "0 0");
        hall.seats(0, 3, 0);
        hall.list(90);
        check.same("a list that came later", got(hall, 3), "2 1 0");
        hall.seats(0, 10, 0);
        hall.undo();
        check.same("and had seats that were undone", got(hall, 3), "2 1 0");
        hall.undo();
        hall.undo();
        check.same("at first again", got(hall, 2), "0 0");
        refused(() -> Houses.withLists(7, 3), "seatAt(0)", ELEMENT, house -> house.seatAt(0));
    }

    private static void keptSeats() {
        check.sentence(14, "seats() keeps the result until it is called again or undone");
        Ballothall hall = Houses.withLists(7, 3);
        hall.seats(0, 3, 0);
        hall.setVotes(0, 0);
        hall.ally(0, 1);
        hall.ally(1, 1);
        hall.setLot(true, 1, 0);
        hall.lossAt(60);
        check.same("kept", got(hall, 2) + " " + order(hall, 3), "2 1 001");
        check.same("refused", Check.orThrown(() -> hall.seats(0, 61, 0)), "IllegalArgumentException");
        check.same("kept", got(hall, 2) + " " + order(hall, 3), "2 1 001");
        hall.seats(0, 60, 0);
        check.same("called again", got(hall, 2), "0 60");
        hall.undo();
        check.same("undone", got(hall, 2) + " " + order(hall, 3), "2 1 001");
        hall.undo();
        hall.seats(0, 2, 20);
        hall.seats(0, 2, 20);
        hall.undo();
        check.same("undone once of two", hall.seatsOf(0) + hall.seatsOf(1), 2);
    }

    private static void placesOfSeats() {
        check.sentence(15, "Throws NoSuchElementException if there is no such seat");
        String[] ends = {"0 1", "0 0", "0 1", "0 0", "0 0", "0 1"};
        for (int method = 0; method < 6; method++) {
            int itsMethod = method;
            Supplier<Ballothall> three = () -> {
                Ballothall hall = Houses.withLists(7, 3);
                hall.seats(0, 60, 0);
                hall.seats(itsMethod, 3, 0);
                return hall;
            };
            check.same("the first and the last one", three.get().seatAt(0) + " " + three.get().seatAt(2),
                ends[method]);
            for (int index : new int[] {-1, 3, 59, 60, MIN, MAX}) {
                refused(three, "seatAt(" + index + ")", ELEMENT, hall -> hall.seatAt(index));
            }
        }
        Ballothall sixty = Houses.withLists(7, 3);
        sixty.seats(1, 60, 0);
        check.same("the last of sixty", sixty.seatAt(59) >= 0, true);
        check.same("none behind it", Check.orThrown(() -> sixty.seatAt(60)), "NoSuchElementException");
    }

    private static void noOrderOfAlliances() {
        check.sentence(15, "or an alliance of two or more lists took part");
        Supplier<Ballothall> allied = () -> {
            Ballothall hall = Houses.withLists(7, 3, 2);
            hall.ally(0, 4);
            hall.ally(2, 4);
            hall.seats(0, 3, 0);
            return hall;
        };
        refused(allied, "two lists", ELEMENT, hall -> hall.seatAt(0));
        refused(SeatEdgeTest::full, "in a full house", ELEMENT, hall -> hall.seatAt(0));
        Ballothall hall = allied.get();
        hall.ally(2, 0);
        check.same("as it was then", Check.orThrown(() -> hall.seatAt(0)), "NoSuchElementException");
        hall.seats(0, 3, 0);
        check.same("an alliance of one list", hall.seatAt(0), 0);
        hall.ally(2, 4);
        check.same("as it was then", hall.seatAt(0), 0);
        hall.undo();
        hall.undo();
        check.same("undone", Check.orThrown(() -> hall.seatAt(0)), "NoSuchElementException");
    }

    private static void orderOfSeats() {
        check.sentence(15, "by the method 5 first those of the rounded quotients, list by list, then the others as they were "
            + "given");
        Ballothall hall = Houses.withLists(14, 33, 53);
        hall.seats(5, 5, 0);
        check.same("0.7, 1.65, 2.65", order(hall, 5), "12202");
        hall.seats(1, 5, 0);
        check.same("in the order in which they were given", order(hall, 5), "21201");
    }

    // ---- promise 16

    private static void rangeOfLossAt() {
        check.sentence(16, "most: 1 to 60, the greatest s that is tried");
        Ballothall at60 = Houses.withLists(50, 105, 13, 53);
        check.same("a loss with 61 seats", at60.lossAt(60), 60);
        check.same("is not looked at", at60.lossAt(59), -1);
        Ballothall at3 = Houses.withLists(66, 20, 56);
        check.same("a loss with 4 seats", at3.lossAt(60) + " " + at3.lossAt(3), "3 3");
        check.same("of the first list, of the last list", Houses.withLists(20, 66, 56).lossAt(3) + " "
            + Houses.withLists(66, 56, 20).lossAt(3), "3 3");
        check.same("is not looked at", at3.lossAt(2) + " " + at3.lossAt(1), "-1 -1");
        for (int most : new int[] {0, -1, 61, MIN, MAX}) {
            refused(SeatEdgeTest::busy, "lossAt(" + most + ")", ARGUMENT, hall -> hall.lossAt(most));
            refused(Ballothall::new, "lossAt(" + most + ")", ARGUMENT, hall -> hall.lossAt(most));
        }
        check.sentence(16, "NONE if there is none");
        check.same("no lists", new Ballothall().lossAt(60), -1);
        check.same("one list", Houses.withLists(MOST_VOTES).lossAt(60), -1);
        check.same("no votes", Houses.withLists(0, 0, 0).lossAt(60), -1);
        check.same("eight equal lists", Houses.withLists(1, 1, 1, 1, 1, 1, 1, 1).lossAt(60), -1);
        check.sentence(16, "without a threshold");
        Ballothall tiny = Houses.withLists(70, 41, 1);
        tiny.seats(5, 47, 20);
        check.same("a list with less than one percent", tiny.lossAt(60), 47);
    }

    private static void lossChangesNothing() {
        check.sentence(16, "Looks for a loss by a greater house");
        Supplier<Ballothall> losing = () -> {
            Ballothall hall = Houses.withLists(66, 20, 56);
            hall.seats(0, 9, 0);
            return hall;
        };
        Ballothall looked = losing.get();
        looked.lossAt(60);
        check.same("the state", Check.stateOf(looked), Check.stateOf(losing.get()));
        Ballothall undone = losing.get();
        undone.lossAt(60);
        check.same("the changes", Check.pastOf(undone), Check.pastOf(losing.get()));
    }

    public static void main(String[] arguments) {
        eightLists();
        rangeOfVotes();
        firstAlliance();
        rangeOfAlliances();
        numbersOfLists();
        allianceZeroIsNone();
        unitsOfAlliances();
        eachDivisor();
        equalQuotients();
        roundedDown();
        equalRemainders();
        threshold();
        thresholdOfAlliances();
        withoutVotes();
        sumOfThoseThatTakePart();
        nobodyTakesPart();
        insideAlliances();
        rangesOfSeats();
        unitsThatTakePart();
        beforeSeats();
        keptSeats();
        placesOfSeats();
        noOrderOfAlliances();
        orderOfSeats();
        rangeOfLossAt();
        lossChangesNothing();
        check.end();
    }
}
