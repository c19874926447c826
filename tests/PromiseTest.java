import java.util.NoSuchElementException;
import java.util.function.Function;
import java.util.function.Supplier;

/** The promises 1 to 54, one by one: ordinary calls, each answer reckoned by hand, and one wrong call of each sort. */
public final class PromiseTest {
    private static final Class<IndexOutOfBoundsException> INDEX = IndexOutOfBoundsException.class;
    private static final Class<IllegalArgumentException> ARGUMENT = IllegalArgumentException.class;
    private static final Class<IllegalStateException> STATE = IllegalStateException.class;
    private static final Class<NoSuchElementException> ELEMENT = NoSuchElementException.class;
    private static final int NONE = Ballothall.NONE;
    private static final Check check = new Check("PromiseTest");

    private static void refused(Supplier<Ballothall> maker, Class<? extends RuntimeException> due, String what,
            Function<Ballothall, Object> call) {
        check.refused(maker, what, due, call);
    }

    private static String join(int places, Function<Integer, Object> place) {
        StringBuilder all = new StringBuilder();
        for (int i = 0; i < places; i++) {
            all.append(i == 0 ? "" : " ").append(place.apply(i));
        }
        return all.toString();
    }

    /** A 5, B 4, C 3 and D 2 ballots. */
    private static Ballothall poll() {
        return Houses.withBallots(4, "A>B|C", 5, "B=C>D", 4, "C>A", 3, "D", 2);
    }

    // ---- candidates, ballots

    private static void candidatesAndLots() {
        check.sentence(2, "Adds a candidate. Returns the number of the candidate.");
        Ballothall hall = new Ballothall();
        check.same("three of them", hall.candidate() + " " + hall.candidate() + " " + hall.candidate(), "0 1 2");
        check.same("C is there", Check.cast(hall, "C", 1), 0);
        check.same("D is not", Check.cast(hall, "D", 1), -3);
        check.sentence(3, "Sets a lot.");
        hall.setLot(false, 1, 90);
        hall.setLot(false, 0, 91);
        hall.takeBack(0, 1);
        check.same("C has the smallest", hall.winner(0), 2);
        hall.setLot(false, 2, 92);
        check.same("then B", hall.winner(0), 1);
        check.sentence(3, "number: its number");
        hall.setLot(false, 0, 89);
        check.same("then A", hall.winner(0), 0);
        check.sentence(3, "Returns the lot before.");
        check.same("three lots", join(3, c -> hall.setLot(false, c, 7)), "89 90 92");
        check.same("three times 7", join(3, c -> hall.setLot(false, c, c)), "7 7 7");
        check.sentence(3, "Throws IllegalArgumentException see section 1");
        refused(PromiseTest::poll, ARGUMENT, "setLot(false, 0, 100)", house -> house.setLot(false, 0, 100));
        refused(PromiseTest::poll, ARGUMENT, "setLot(false, 3, -1)", house -> house.setLot(false, 3, -1));
    }

    private static void texts() {
        check.sentence(4, "bytes: the number");
        Ballothall two = Check.withCandidates(2);
        two.type(0x423E41L);
        check.same("B>A", two.ballots(1) + ": " + two.kindAt(0, 0, true) + " " + two.kindAt(0, 1, true), "0: 1 0");
        check.sentence(4, "Returns the length of the text.");
        Ballothall hall = Check.withCandidates(3);
        check.same("C", hall.type(0x43L), 1);
        check.same("=A", hall.type(0x3D41L), 3);
        check.same("no byte", hall.type(0), 3);
        check.same("|", hall.type(0x7C00000000000000L), 4);
        check.same("B", hall.type(0x0000420000000000L), 5);
        check.sentence(5, "Adds ballots of the kind that the text tells.");
        check.same("the first kind", hall.ballots(30), 0);
        check.same("30 of C=A|B", hall.countOf(0) + ": " + join(3, c -> hall.kindAt(0, c, true)), "30: 0 1 0");
        check.same("the empty text", hall.ballots(4) + ", " + hall.countOf(1), "1, 4");
        check.same("more of the first kind", Check.cast(hall, "A=C>B", 12) + ", " + hall.countOf(0), "0, 42");
        check.sentence(5, "Throws IllegalArgumentException see section 1");
        refused(() -> Houses.busy("A"), ARGUMENT, "ballots(0)", house -> house.ballots(0));
        refused(() -> Houses.busy("A"), ARGUMENT, "ballots(100001)", house -> house.ballots(100001));
    }

    private static void kinds() {
        check.sentence(6, "Takes ballots back;");
        Ballothall hall = poll();
        hall.takeBack(1, 3);
        check.same("the counts", join(4, hall::countOf), "5 1 3 2");
        check.sentence(6, "kind: a ballot kind");
        hall.takeBack(3, 1);
        check.same("the counts", join(4, hall::countOf), "5 1 3 1");
        check.sentence(6, "Returns the count then.");
        check.same("the counts", join(4, kind -> hall.takeBack(kind, 1)), "4 0 2 0");
        check.sentence(6, "Throws IndexOutOfBoundsException see section 1");
        refused(PromiseTest::poll, INDEX, "takeBack(4, 1)", house -> house.takeBack(4, 1));
        check.sentence(6, "Throws IllegalArgumentException see section 1");
        refused(PromiseTest::poll, ARGUMENT, "takeBack(3, 3)", house -> house.takeBack(3, 3));
        check.sentence(7, "Returns the count of a kind. - kind: a ballot kind Returns the count.");
        check.same("the counts", join(4, poll()::countOf), "5 4 3 2");
        check.sentence(7, "Throws IndexOutOfBoundsException see section 1");
        refused(PromiseTest::poll, INDEX, "countOf(4)", house -> house.countOf(4));
        check.sentence(8, "Returns how a kind ranks a candidate. - kind: a ballot kind - candidate: a candidate");
        check.same("A>B|C", join(4, c -> poll().kindAt(0, c, true)), "0 1 2 3");
        check.same("B=C>D", join(4, c -> poll().kindAt(1, c, true)), "2 0 0 1");
        check.same("D", join(4, c -> poll().kindAt(3, c, true)), "1 1 1 0");
        check.sentence(8, "isRank: true for the rank, false for the approval");
        check.same("A>B|C", join(4, c -> poll().kindAt(0, c, false)), "1 1 0 0");
        check.sentence(8, "or 1 if the candidate is approved, otherwise 0.");
        check.same("B=C>D", join(4, c -> poll().kindAt(1, c, false)), "0 1 1 0");
        check.sentence(8, "Throws IndexOutOfBoundsException see section 1");
        refused(PromiseTest::poll, INDEX, "kindAt(4, 0, true)", house -> house.kindAt(4, 0, true));
        refused(PromiseTest::poll, INDEX, "kindAt(0, 4, true)", house -> house.kindAt(0, 4, true));
        check.sentence(9, "Returns the number of ballots.");
        check.same("5, 4, 3 and 2", poll().allBallots(), 14);
        check.same("less 1, 4, 1 and 2", hall.allBallots(), 6);
    }

    // ---- lists

    private static void lists() {
        check.sentence(10, "Returns its number.");
        Ballothall hall = new Ballothall();
        check.same("three of them", hall.list(500) + " " + hall.list(0) + " " + hall.list(300), "0 1 2");
        check.sentence(10, "Throws IllegalArgumentException see section 1");
        refused(Houses::withLists, ARGUMENT, "list(-1)", house -> house.list(-1));
        check.sentence(11, "Sets the votes of a list. - list: a list");
        hall.setVotes(1, 700);
        hall.seats(0, 3, 0);
        check.same("500, 700 and 300", join(3, hall::seatAt), "1 0 1");
        check.sentence(11, "Returns its votes before.");
        check.same("the votes", join(3, list -> hall.setVotes(list, 900)), "500 700 300");
        check.sentence(11, "Throws IndexOutOfBoundsException see section 1");
        refused(() -> Houses.withLists(5, 6), INDEX, "setVotes(2, 5)", house -> house.setVotes(2, 5));
        check.sentence(11, "Throws IllegalArgumentException see section 1");
        refused(() -> Houses.withLists(5, 6), ARGUMENT, "setVotes(1, -1)", house -> house.setVotes(1, -1));
        check.sentence(12, "Sets the alliance of a list. - list: a list");
        Ballothall allied = Houses.withLists(40, 30, 30);
        allied.ally(1, 2);
        allied.ally(2, 2);
        allied.seats(0, 3, 0);
        check.same("60 together get two of three", join(3, allied::seatsOf), "1 1 1");
        allied.seats(0, 1, 0);
        check.same("60 together get one of one", join(3, allied::seatsOf), "0 1 0");
        check.sentence(12, "Returns its alliance before.");
        check.same("the alliances", join(3, list -> allied.ally(list, 4)), "0 2 2");
        check.same("then", join(3, list -> allied.ally(list, 0)), "4 4 4");
        check.sentence(12, "Throws IndexOutOfBoundsException see section 1");
        refused(() -> Houses.withLists(5, 6), INDEX, "ally(2, 1)", house -> house.ally(2, 1));
        check.sentence(12, "Throws IllegalArgumentException see section 1");
        refused(() -> Houses.withLists(5, 6), ARGUMENT, "ally(1, 5)", house -> house.ally(1, 5));
    }

    private static void seats() {
        check.sentence(13, "Distributes seats to all lists.");
        Ballothall hall = Houses.withLists(52, 37, 11);
        int[][] due = {{5, 4, 1}, {5, 4, 1}, {5, 4, 1}, {5, 4, 1}, {6, 4, 0}, {5, 4, 1}};
        for (int method = 0; method < 6; method++) {
            int some = method;
            check.same("the units", hall.seats(method, 10, 0), 3);
            check.same("10 seats, method " + method, join(3, hall::seatsOf), join(3, list -> due[some][list]));
        }
        check.sentence(13, "Throws IllegalArgumentException see section 1");
        refused(PromiseTest::seated, ARGUMENT, "seats(6, 1, 0)", house -> house.seats(6, 1, 0));
        refused(PromiseTest::seated, ARGUMENT, "seats(0, 61, 0)", house -> house.seats(0, 61, 0));
        refused(PromiseTest::seated, ARGUMENT, "seats(0, 1, 21)", house -> house.seats(0, 1, 21));
        check.sentence(14, "Returns the seats that a list got by the latest seats(). - list: a list Returns the number of seats.");
        check.same("5.2, 3.7 and 1.1", join(3, seated()::seatsOf), "5 4 1");
        hall.seats(5, 1, 0);
        hall.setVotes(2, 1000);
        check.same("the latest", join(3, hall::seatsOf), "1 0 0");
        check.sentence(14, "Throws IndexOutOfBoundsException see section 1");
        refused(PromiseTest::seated, INDEX, "seatsOf(3)", house -> house.seatsOf(3));
        check.sentence(15, "Returns the list that got a seat by the latest seats(), if no alliances took part in it: by the methods 0 "
            + "to 4 in the order in which the seats were given; by the method 5 first those of the rounded quotients, list by list, "
            + "then the others as they were given.");
        check.same("5, 3 and 1, then to 0.7", join(10, seated()::seatAt), "0 0 0 0 0 1 1 1 2 1");
        hall.setVotes(2, 11);
        // 52 26 17.3 13 10.4, 37 18.5 12.3 9.25, 11
        hall.seats(0, 9, 0);
        check.same("by the divisors 1, 2, 3", join(9, hall::seatAt), "0 1 0 1 0 0 1 2 0");
        check.sentence(15, "index: 0 for the first seat Returns the list.");
        check.same("the first, the eighth", hall.seatAt(0) + " " + hall.seatAt(7), "0 2");
        refused(PromiseTest::seated, ELEMENT, "seatAt(10)", house -> house.seatAt(10));
        refused(PromiseTest::seated, ELEMENT, "seatAt(-1)", house -> house.seatAt(-1));
    }

    private static Ballothall seated() {
        Ballothall hall = Houses.withLists(52, 37, 11);
        hall.seats(5, 10, 0);
        return hall;
    }

    private static void losses() {
        check.sentence(16, "the smallest number of seats s, from 1 on, with which some list has more seats than with s + 1.");
        // 3 seats: 9/7, 9/7, 3/7, the rest to C; 4 seats: 12/7, 12/7, 4/7, both others to A and B.
        Ballothall hall = Houses.withLists(3, 3, 1);
        check.same("with 3 seats C has one", hall.lossAt(60), 3);
        check.sentence(16, "Returns s;");
        hall.seats(5, 3, 0);
        check.same("3 seats", join(3, hall::seatsOf), "1 1 1");
        hall.seats(5, 4, 0);
        check.same("4 seats", join(3, hall::seatsOf), "2 2 0");
        check.same("tried up to 3", hall.lossAt(3), 3);
        check.same("tried up to 2", hall.lossAt(2), NONE);
        check.sentence(16, "Throws IllegalArgumentException see section 1");
        refused(PromiseTest::seated, ARGUMENT, "lossAt(0)", house -> house.lossAt(0));
        refused(PromiseTest::seated, ARGUMENT, "lossAt(61)", house -> house.lossAt(61));
    }

    // ---- the transferable vote

    /** The quota is 7: A has 9, and passes 2/9 of 6 on to B, of 3 to C; then D goes, whose 4 go to C. */
    private static Ballothall counted() {
        Ballothall hall = Houses.withBallots(4, "A>B", 6, "A>C", 3, "B", 3, "C", 4, "D>C", 3, "", 1);
        hall.transferable(2);
        return hall;
    }

    private static void counts() {
        check.sentence(17, "Throws IllegalArgumentException see section 1");
        refused(PromiseTest::counted, ARGUMENT, "transferable(0)", hall -> hall.transferable(0));
        refused(PromiseTest::counted, ARGUMENT, "transferable(4)", hall -> hall.transferable(4));
        Ballothall hall = counted();
        check.sentence(18, "Returns the quota of the latest count. Returns the quota;");
        check.same("20 ballots, 2 seats", hall.quota(), 7);
        check.same("20 ballots, 1 seat", hall.transferable(1) + " " + hall.quota(), "1 11");
        hall.undo();
        check.sentence(19, "Returns an elected candidate of the latest count. - index: 0 for the one elected first Returns the "
            + "candidate.");
        check.same("A, then C", hall.electedAt(0) + " " + hall.electedAt(1), "0 2");
        refused(PromiseTest::counted, ELEMENT, "electedAt(2)", house -> house.electedAt(2));
        check.sentence(20, "Returns an excluded candidate of the latest count. - index: 0 for the one excluded first Returns the "
            + "candidate.");
        check.same("D", hall.excludedAt(0), 3);
        refused(PromiseTest::counted, ELEMENT, "excludedAt(1)", house -> house.excludedAt(1));
        Ballothall two = Houses.withBallots(3, "A", 3, "B", 1, "C", 2, "", 2);
        two.transferable(1);
        check.same("B, then C", two.excludedAt(0) + " " + two.excludedAt(1), "1 2");
        check.sentence(21, "Returns the number;");
        check.same("two elections and an exclusion", hall.steps(), 3);
    }

    private static void piles() {
        Ballothall hall = counted();
        check.sentence(22, "Writes the pile that a candidate had at a moment of the latest count: numerator, then a slash and the "
            + "denominator, if this is not 1.");
        check.same("at first", join(4, c -> Check.pile(hall, 0, c)), "9 3 4 3");
        check.same("A is elected", join(4, c -> Check.pile(hall, 1, c)), "7 13/3 14/3 3");
        check.same("D is excluded", join(4, c -> Check.pile(hall, 2, c)), "7 13/3 23/3 0");
        check.sentence(22, "(The pile of an elected candidate is what they keep, that of an excluded one 0; a candidate that came "
            + "later has 0.)");
        check.same("C is elected, and passes two thirds on", join(4, c -> Check.pile(hall, 3, c)), "7 13/3 7 0");
        hall.candidate();
        check.same("E", Check.pile(hall, 0, 4) + Check.pile(hall, 3, 4), "00");
        hall.undo();
        check.sentence(22, "step: the number of elections and exclusions that were done by then");
        check.same("B", join(4, step -> Check.pile(hall, step, 1)), "3 13/3 13/3 13/3");
        refused(PromiseTest::counted, ELEMENT, "writePile(4, 0)", house -> house.writePile(4, 0));
        check.sentence(22, "candidate: a candidate, or NONE for what is exhausted");
        check.same("the empty ballot, then what C passes on", join(4, step -> Check.pile(hall, step, NONE)), "1 1 1 5/3");
        refused(PromiseTest::counted, INDEX, "writePile(0, 4)", house -> house.writePile(0, 4));
        check.sentence(22, "Returns the length of the output.");
        check.same("13/3, 23/3, 7", hall.writePile(1, 1) + " " + hall.writePile(2, 2) + " " + hall.writePile(3, 2), "4 4 1");
        check.sentence(23, "index: 0 for the first byte Returns the byte;");
        hall.writePile(2, 2);
        check.same("23/3", join(4, hall::outputByte), "50 51 47 51");
        check.same("no more", hall.outputByte(4) + " " + hall.outputByte(-1), "-1 -1");
    }

    private static void solidSets() {
        check.sentence(24, "candidates: a set of candidates: bit i (2 to the power of i) for the candidate i");
        Ballothall hall = Houses.withBallots(4, "A>B", 7, "B=A>C", 8, "C>D", 5, "D>C>A", 6);
        hall.transferable(3);
        // Sets of which a quota is strictly ahead: A alone (1) and C, D (5 + 6 = 11 of 7), A and B (15), all but one.
        check.same("the quota", hall.quota(), 7);
        check.same("A, B, both", hall.solidQuotas(1) + " " + hall.solidQuotas(2) + " " + hall.solidQuotas(3), "1 0 2");
        check.same("C, D, both", hall.solidQuotas(4) + " " + hall.solidQuotas(8) + " " + hall.solidQuotas(12), "0 0 1");
        check.same("three", hall.solidQuotas(7) + " " + hall.solidQuotas(13), "1 0");
        check.same("all", hall.solidQuotas(15), 3);
        refused(() -> Houses.withBallots(4, "A", 3), STATE, "solidQuotas(1)", house -> house.solidQuotas(1));
        refused(PromiseTest::counted, ARGUMENT, "solidQuotas(16)", house -> house.solidQuotas(16));
    }

    // ---- pairs

    /** A beats B by 8 of 14, B beats C by 9 of 10, C beats A by 7 of 12, and each of them beats D. */
    private static void pairs() {
        Ballothall hall = poll();
        check.sentence(25, "Returns d(a, b). - candidate: a - other: b Returns the number of ballots;");
        check.same("A ahead of B: 5 and 3", hall.ahead(0, 1), 8);
        check.same("B ahead of A: 4", hall.ahead(1, 0), 4);
        check.same("B ahead of C: 5", hall.ahead(1, 2) + " " + hall.ahead(2, 1), "5 3");
        check.same("D ahead of each: 2, and of A: 4 more", join(3, c -> hall.ahead(3, c)), "6 2 2");
        check.sentence(25, "Throws IndexOutOfBoundsException see section 1");
        refused(PromiseTest::poll, INDEX, "ahead(4, 0)", house -> house.ahead(4, 0));
        refused(PromiseTest::poll, INDEX, "ahead(0, 4)", house -> house.ahead(0, 4));
        check.sentence(26, "Returns the candidate that beats each other one. Returns the candidate;");
        check.same("C beats A by 7 : 5, so that there is none", hall.ahead(2, 0) + " " + hall.beatsAll(), "7 -1");
        Check.cast(hall, "A>C", 3);
        check.same("A beats C by 8 : 7", hall.beatsAll(), 0);
        Check.cast(hall, "C=B>A", 6);
        check.same("C beats A by 13 : 8 and B by 6 : 5", hall.beatsAll(), 2);
        check.sentence(27, "Returns the strength of the strongest path from a candidate to another one. - candidate: the first one "
            + "- other: the last one Returns the strength;");
        Ballothall ring = poll();
        check.same("A beats B, who beats C, who beats A", join(3, a -> join(3, b -> ring.strongestPath(a, b))),
            "0 8 5 5 0 5 7 7 0");
        check.same("to D and from D", join(3, c -> ring.strongestPath(c, 3)) + ", " + join(3, c -> ring.strongestPath(3, c)),
            "8 9 12, 0 0 0");
        check.sentence(27, "Throws IndexOutOfBoundsException see section 1");
        refused(PromiseTest::poll, INDEX, "strongestPath(4, 0)", house -> house.strongestPath(4, 0));
        refused(PromiseTest::poll, INDEX, "strongestPath(0, 4)", house -> house.strongestPath(0, 4));
        check.sentence(28, "Returns the candidates that win by strongest paths. Returns the set as a number (bit i for the candidate "
            + "i);");
        check.same("C alone", ring.pathWinners(), 4);
        check.same("without ballots", Check.withCandidates(4).pathWinners(), 15);
        check.sentence(29, "Returns the beating set. Returns the set as a number;");
        check.same("A, B and C", ring.beatingSet(), 7);
        check.same("C", hall.beatingSet(), 4);
        check.same("without ballots", Check.withCandidates(4).beatingSet(), 15);
    }

    private static void consensus() {
        check.sentence(30, "Returns a candidate of the shortest consensus order. - index: 0 for the first one Returns the candidate.");
        Ballothall hall = poll();
        // A B C D has 4 + 7 + 6 + 3 + 2 + 2; C A B D has 5 + 5 + 2 + 4 + 6 + 2, B C A D 3 + 8 + 2 + 5 + 2 + 6.
        check.same("A B C D and C A B D are as short", join(4, hall::consensusAt), "0 1 2 3");
        Check.cast(hall, "C>A", 1);
        check.same("a ballot more", join(4, hall::consensusAt), "2 0 1 3");
        refused(PromiseTest::poll, ELEMENT, "consensusAt(4)", house -> house.consensusAt(4));
        check.sentence(31, "Returns the distance of the shortest consensus order. Returns the distance;");
        check.same("of the first 14", poll().consensusDistance(), 24);
        check.same("of the 15", hall.consensusDistance(), 24);
    }

    // ---- single winners, approvals

    private static void winners() {
        check.sentence(32, "Returns the winner by a way. - way: 0 to 4 Returns the candidate;");
        // Runoff: A 5, B 0, C 3, D 2. B goes, then D with 2 (C has 3 + 4), then A 5 to C 7.
        check.same("A has most ballots, C most of the others", join(5, poll()::winner), "0 2 2 2 1");
        check.sentence(32, "Throws IllegalArgumentException see section 1");
        refused(PromiseTest::poll, ARGUMENT, "winner(5)", house -> house.winner(5));
        check.sentence(33, "Returns what a candidate has by a way that counts once. - way: 0, 3 or 4 - candidate: a candidate Returns "
            + "the ballots, points or approvals.");
        check.same("alone in the first group", join(4, c -> poll().votesFor(0, c)), "5 0 3 2");
        // A>B|C gives 6 4 2 0, B=C>D 0 5 5 2, C>A 4 1 6 1, D 2 2 2 6.
        check.same("points", join(4, c -> poll().votesFor(3, c)), "46 47 52 23");
        check.same("approvals", join(4, c -> poll().votesFor(4, c)), "5 9 7 2");
        check.sentence(33, "Throws IndexOutOfBoundsException see section 1");
        refused(PromiseTest::poll, INDEX, "votesFor(0, 4)", house -> house.votesFor(0, 4));
        check.sentence(33, "Throws IllegalArgumentException see section 1");
        refused(PromiseTest::poll, ARGUMENT, "votesFor(1, 0)", house -> house.votesFor(1, 0));
        check.sentence(34, "Returns a candidate that goes in the runoff. - index: 0 for the one that goes first Returns the "
            + "candidate.");
        check.same("B, D, A", join(3, poll()::runoffOut), "1 3 0");
        refused(PromiseTest::poll, ELEMENT, "runoffOut(3)", house -> house.runoffOut(3));
    }

    private static int with(String ballot, int way, int count) {
        Ballothall hall = poll();
        Check.type(hall, ballot);
        return hall.winnerWith(way, count);
    }

    private static void otherBallots() {
        check.sentence(35, "Returns the candidate; NONE without candidates; -3 - error for a text with an error.");
        check.same("5 : 2 + 3 and 5 : 2 + 4", with("D", 0, 3) + " " + with("D", 0, 4), "0 3");
        check.same("without the fives", with("A>B|C", 0, -2) + " " + with("A>B|C", 0, -3), "0 2");
        check.same("9 : 7 + 2 and 9 : 7 + 3", with("C>A", 4, 2) + " " + with("C>A", 4, 3), "1 2");
        // By runoff A 5, C 3 + 4; with four less of B=C>D it is 5 : 3, with two less 5 : 5, with one less 5 : 6.
        check.same("less by runoff", with("B=C>D", 1, -1) + " " + with("B=C>D", 1, -2) + " " + with("B=C>D", 1, -4), "2 0 0");
        check.same("more by runoff", with("A>C", 1, 1) + " " + with("A>C", 1, 2), "2 0");
        check.same("errors", with("A>B>", 0, 1) + " " + with("E", 0, 1) + " " + with("A=A", 0, 1), "-7 -3 -5");
        check.same("no candidates", new Ballothall().winnerWith(0, 5), NONE);
        check.sentence(35, "Throws IllegalArgumentException see section 1");
        refused(PromiseTest::poll, ARGUMENT, "winnerWith(5, 0)", house -> house.winnerWith(5, 0));
        refused(PromiseTest::poll, ARGUMENT, "winnerWith(0, 1001)", house -> house.winnerWith(0, 1001));
        check.sentence(36, "Returns the kind; NONE if there is none.");
        // A 4, B 3, C 2: one of C>B>A that says B makes 4 : 4, which A wins by lot at first.
        Ballothall hall = Houses.withBallots(3, "A>B>C", 4, "B>A>C", 3, "C>B>A", 2);
        check.same("A wins ties", hall.winner(0) + " " + hall.gain(0), "0 -1");
        hall.setLot(false, 0, 50);
        check.same("B wins ties", hall.winner(0) + " " + hall.gain(0), "0 2");
        check.sentence(36, "so that the winner by the way is then a candidate that the kind ranks ahead of the present winner.");
        Ballothall first = Houses.withBallots(4, "C=D>B", 1, "A", 1, "C", 1);
        check.same("C is ahead of A, in a group ahead of the next one", first.gain(0) + " " + first.gainAt(0, 0), "0 2");
        // By runoff B goes, and C wins by 5 : 4. One of A>B>C as B>A>C makes 3 : 3 : 3, so that C goes, and B wins by 6 : 3.
        Ballothall runoff = Houses.withBallots(3, "A>B>C", 4, "B>C", 2, "C>B", 3);
        check.same("by runoff", runoff.winner(1) + " " + runoff.gain(1), "2 0");
        check.same("the false ballot", join(3, place -> runoff.gainAt(1, place)), "1 0 2");
        runoff.setLot(false, 1, 99);
        check.same("if B goes then", runoff.winner(1) + " " + runoff.gain(1), "2 -1");
        Ballothall undone = Houses.withBallots(3, "A", 2, "B", 2, "C>B", 1);
        check.same("C>B as B", undone.gain(0), 2);
        undone.undo();
        check.same("a kind that was undone", undone.gain(0), NONE);
        check.sentence(36, "Throws IllegalArgumentException see section 1");
        refused(PromiseTest::poll, ARGUMENT, "gain(5)", house -> house.gain(5));
        check.sentence(37, "Returns a candidate of the false ballot that gain() finds: of several for that kind the first one in "
            + "lexicographic order of numbers. - way: 0 to 4 - index: 0 for the first candidate of the ballot Returns the candidate.");
        check.same("B>A>C, not B>C>A", join(3, place -> hall.gainAt(0, place)), "1 0 2");
        check.sentence(37, "Throws IllegalArgumentException see section 1");
        refused(PromiseTest::poll, ARGUMENT, "gainAt(-1, 0)", house -> house.gainAt(-1, 0));
        check.sentence(38, "Returns the candidate, of several the one with the smallest number; NONE if there is none.");
        check.same("without C, B gets 5", hall.spoiler(0), 2);
        check.same("by points A has 22, B 24, C 8", hall.winner(3) + " " + hall.spoiler(3), "1 -1");
        check.sentence(38, "Throws IllegalArgumentException see section 1");
        refused(PromiseTest::poll, ARGUMENT, "spoiler(5)", house -> house.spoiler(5));
    }

    private static void approvals() {
        check.sentence(39, "Returns the candidate that takes a seat by proportional approvals. - index: 0 for the first seat Returns "
            + "the candidate.");
        // B has 9 of the approvals 5, 9, 7, 2; then A 5/2, C 4/2 + 3, D 2; then A 5/2, D 2.
        check.same("B, C, A, D", join(4, poll()::proportionalAt), "1 2 0 3");
        refused(PromiseTest::poll, ELEMENT, "proportionalAt(4)", house -> house.proportionalAt(4));
        check.sentence(40, "Returns after how many ballots the winner by the way 0 is safe. Returns the smallest number;");
        // A has 5, and after the four for nobody C can still get 5 as well, but A has the smaller lot; with the greatest
        // one A must wait for a ballot that is not for C.
        check.same("after nine", poll().safeAfter(), 9);
        Ballothall hall = poll();
        hall.setLot(false, 0, 99);
        check.same("with the greatest lot not ahead of the last but one", hall.safeAfter(), 13);
    }

    // ---- districts, councils

    private static Ballothall wards() {
        return Houses.withWards(new int[] {30, 12, 18}, new int[] {20, 15, 5}, new int[] {25, 9, 16}, new int[] {10, 6, 4},
            new int[] {35, 17, 18});
    }

    private static void districts() {
        check.sentence(41, "Adds a ward at the end of the row. - heads: 1 to 100000 - votesA: 0 to 100000, for the party 0 - votesB: 0 "
            + "to 100000, for the party 1 Returns its number.");
        Ballothall hall = wards();
        check.same("the sixth", hall.ward(100000, 100000, 0), 5);
        check.same("is a district alone", hall.greatestDistrict(2) + " " + hall.districtEnd(2, 0), "100000 4");
        check.same("which the party 0 wins", hall.districtsWon(2, 0) + " " + hall.districtsWon(2, 1), "1 1");
        check.sentence(41, "Throws IllegalArgumentException see section 1");
        refused(PromiseTest::wards, ARGUMENT, "ward(0, 1, 1)", house -> house.ward(0, 1, 1));
        refused(PromiseTest::wards, ARGUMENT, "ward(1, -1, 1)", house -> house.ward(1, -1, 1));
        refused(PromiseTest::wards, ARGUMENT, "ward(1, 1, 100001)", house -> house.ward(1, 1, 100001));
        check.sentence(42, "Returns the greatest number of heads of a district, if the wards are divided. - districts: 1 to the number "
            + "of wards Returns the number.");
        // 30 20 | 25 10 35, then 30 | 20 25 | 10 35, then 30 | 20 | 25 10 | 35
        check.same("1 to 5 districts", join(5, k -> wards().greatestDistrict(k + 1)), "120 70 45 35 35");
        check.sentence(42, "Throws IllegalArgumentException see section 1");
        refused(PromiseTest::wards, ARGUMENT, "greatestDistrict(0)", house -> house.greatestDistrict(0));
        refused(PromiseTest::wards, ARGUMENT, "greatestDistrict(6)", house -> house.greatestDistrict(6));
        check.sentence(43, "Returns the last ward of a district. - districts: 1 to the number of wards - index: 0 for the first "
            + "district Returns the ward.");
        check.same("two", join(2, i -> wards().districtEnd(2, i)), "1 4");
        check.same("three", join(3, i -> wards().districtEnd(3, i)), "0 2 4");
        check.same("four", join(4, i -> wards().districtEnd(4, i)), "0 1 3 4");
        check.sentence(43, "Throws IllegalArgumentException see section 1");
        refused(PromiseTest::wards, ARGUMENT, "districtEnd(6, 0)", house -> house.districtEnd(6, 0));
        check.sentence(43, "Throws NoSuchElementException if there is no such district");
        refused(PromiseTest::wards, ELEMENT, "districtEnd(3, 3)", house -> house.districtEnd(3, 3));
        check.sentence(44, "Returns how many districts a party wins. - districts: 1 to the number of wards - party: 0 or 1 Returns the "
            + "number.");
        // Three districts have 12 : 18, 24 : 21 and 23 : 22.
        check.same("two and one", wards().districtsWon(3, 0) + " " + wards().districtsWon(3, 1), "2 1");
        check.sentence(44, "Throws IllegalArgumentException see section 1");
        refused(PromiseTest::wards, ARGUMENT, "districtsWon(6, 0)", house -> house.districtsWon(6, 0));
        refused(PromiseTest::wards, ARGUMENT, "districtsWon(3, 2)", house -> house.districtsWon(3, 2));
        check.sentence(45, "Returns the wasted votes of a party in all districts together. - districts: 1 to the number of wards "
            + "- party: 0 or 1 Returns the number.");
        check.same("12, 24 less 22 less 1, 23 less 22 less 1", wards().wasted(3, 0), 13);
        check.same("18 less 15 less 1, 21, 22", wards().wasted(3, 1), 45);
        check.sentence(45, "Throws IllegalArgumentException see section 1");
        refused(PromiseTest::wards, ARGUMENT, "wasted(0, 0)", house -> house.wasted(0, 0));
        refused(PromiseTest::wards, ARGUMENT, "wasted(3, -1)", house -> house.wasted(3, -1));
    }

    private static Ballothall council() {
        return Houses.withMembers(5, 4, 2, 1, 1);
    }

    private static void councils() {
        check.sentence(46, "Adds a member to the council. - weight: 0 to 1000 Returns the number of the member.");
        Ballothall hall = council();
        check.same("the fifth", hall.member(3), 4);
        check.same("has something to say", hall.swings(4) > 0, true);
        check.sentence(46, "Throws IllegalArgumentException see section 1");
        refused(PromiseTest::council, ARGUMENT, "member(1001)", house -> house.member(1001));
        check.sentence(47, "Sets the quota of the council; it is 1 at first.");
        check.same("at first", new Ballothall().setQuota(3), 1);
        check.sentence(47, "Returns the quota before.");
        check.same("one by one", council().setQuota(8) + " " + hall.setQuota(7) + " " + hall.setQuota(5), "5 5 7");
        check.sentence(47, "Throws IllegalArgumentException see section 1");
        refused(PromiseTest::council, ARGUMENT, "setQuota(0)", house -> house.setQuota(0));
        refused(PromiseTest::council, ARGUMENT, "setQuota(12001)", house -> house.setQuota(12001));
        check.sentence(48, "Returns how many sets of other members a member swings. - member: a member Returns the number of sets.");
        // Winning with 4: 4 and any other; without 4 the others have 4 of 5 only.
        check.same("all but the empty set; the set of the member with 4", join(4, council()::swings), "7 1 1 1");
        check.sentence(48, "Throws IndexOutOfBoundsException see section 1");
        refused(PromiseTest::council, INDEX, "swings(4)", house -> house.swings(4));
        check.sentence(49, "Returns how many orders of all members a member turns. - member: a member Returns the number of orders.");
        check.same("each but those where the member is first; second behind the member", join(4, council()::ordersTurned),
            "18 2 2 2");
        check.sentence(49, "Throws IndexOutOfBoundsException see section 1");
        refused(PromiseTest::council, INDEX, "ordersTurned(4)", house -> house.ordersTurned(4));
    }

    // ---- undo, checks

    private static void undone() {
        check.sentence(50, "Returns how many changes can still be undone; NONE if there was none.");
        Ballothall hall = Houses.withBallots(2, "A", 3);
        hall.list(5);
        check.same("four changes", join(5, i -> hall.undo()), "3 2 1 0 -1");
        for (int i = 0; i < 25; i++) {
            hall.setQuota(i + 1);
        }
        check.same("25 changes", hall.undo() + " " + hall.undo(), "19 18");
        check.same("the 23rd stays", hall.setQuota(1), 23);
    }

    private static void sums() {
        check.sentence(51, "Returns a checksum.");
        Ballothall hall = Houses.withBallots(2, "A", 3, "B", 4);
        check.same("3 * 31 + 4", hall.checksum(), 97);
        check.sentence(51, "for each list its votes and its seats;");
        hall.list(6);
        check.same("97, 6, 0", hall.checksum(), (97 * 31 + 6) * 31);
        hall.seats(0, 2, 0);
        check.same("97, 6, 2", hall.checksum(), (97 * 31 + 6) * 31 + 2);
        hall.list(7);
        check.same("97, 6, 2, 7, 0", hall.checksum(), (((97 * 31L + 6) * 31 + 2) * 31 + 7) * 31);
        check.sentence(52, "Returns the mean number of the groups in which a candidate is ranked. - candidate: a candidate");
        check.same("A: 0, 2, 1, 1", poll().meanRank(0), (4 * 2 + 3 + 2) / 14.0);
        check.same("B: 1, 0, 2, 1", poll().meanRank(1), (5 + 3 * 2 + 2) / 14.0);
        check.same("C: 2, 0, 0, 1", poll().meanRank(2), (5 * 2 + 2) / 14.0);
        check.same("D: 3, 1, 2, 0", poll().meanRank(3), (5 * 3 + 4 + 3 * 2) / 14.0);
        Ballothall undone = poll();
        Check.cast(undone, "B>C>D>A", 70);
        check.same("A behind three groups", undone.meanRank(0), (13 + 70 * 3) / 84.0);
        undone.undo();
        check.same("a kind that was undone", undone.meanRank(0), 13 / 14.0);
        check.sentence(52, "Throws IndexOutOfBoundsException see section 1");
        refused(PromiseTest::poll, INDEX, "meanRank(4)", house -> house.meanRank(4));
        check.sentence(53, "Returns the share of the seats of the latest seats() that a list got. - list: a list");
        check.same("5, 4 and 1 of 10", join(3, list -> seated().seatShare(list)), 0.5f + " " + 0.4f + " " + 0.1f);
        check.sentence(53, "Throws IndexOutOfBoundsException see section 1");
        refused(PromiseTest::seated, INDEX, "seatShare(3)", house -> house.seatShare(3));
    }

    private static void theorem() {
        check.sentence(54, "Checks the theorem in a second way, and counts what is not so:");
        check.same("seats", seated().errors(), 0);
        check.sentence(54, "the steps of the latest count after which piles and what is exhausted are not together the number of "
            + "ballots of that count;");
        Ballothall hall = counted();
        check.same("a count with thirds", hall.errors(), 0);
        hall.takeBack(0, 6);
        Check.cast(hall, "D>A", 50);
        check.same("other ballots than those of that count", hall.errors(), 0);
        check.sentence(54, "and 1 if the orders that the members of the council turn are together neither all orders nor none.");
        for (int quota = 1; quota <= 10; quota++) {
            Ballothall council = council();
            council.setQuota(quota);
            long orders = 0;
            for (int member = 0; member < 4; member++) {
                orders += council.ordersTurned(member);
            }
            check.same("all, or none, with the quota " + quota, orders, quota <= 8 ? 24 : 0);
            check.same("errors() with the quota " + quota, council.errors(), 0);
        }
    }

    public static void main(String[] arguments) {
        candidatesAndLots();
        texts();
        kinds();
        lists();
        seats();
        losses();
        counts();
        piles();
        solidSets();
        pairs();
        consensus();
        winners();
        otherBallots();
        approvals();
        districts();
        councils();
        undone();
        sums();
        theorem();
        check.end();
    }
}
