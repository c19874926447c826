import java.util.NoSuchElementException;
import java.util.function.Function;
import java.util.function.Supplier;

/** The terms of the document, sections 1 to 8: what the tests of boundary cases leave, sentence by sentence. */
public final class TermsTest {
    private static final Class<IndexOutOfBoundsException> INDEX = IndexOutOfBoundsException.class;
    private static final Class<IllegalArgumentException> ARGUMENT = IllegalArgumentException.class;
    private static final Class<IllegalStateException> STATE = IllegalStateException.class;
    private static final Class<NoSuchElementException> ELEMENT = NoSuchElementException.class;
    private static final int NONE = Ballothall.NONE;
    private static final Check check = new Check("TermsTest");

    private static Ballothall busy() {
        return Houses.busy("B>C");
    }

    private static Ballothall full() {
        return Houses.full("H>A");
    }

    private static void refused(Supplier<Ballothall> maker, Class<? extends RuntimeException> due, String what,
            Function<Ballothall, Object> call) {
        check.refused(maker, what, due, call);
    }

    private static String join(int places, Function<Integer, Object> place) {
        StringBuilder all = new StringBuilder();
        for (int i = 0; i < places; i++) {
            all.append(i == 0 ? "" : " ").append(place.apply(i));
        }
        return all.toString();
    }

    // ---- section 1

    private static void lots() {
        check.sentence(0, "Lots: each candidate and each list has a lot, a number from 0 to 99; at first it is its own number.");
        for (int i = 0; i < 8; i++) {
            Ballothall hall = Check.withCandidates(8);
            for (int votes = 0; votes < 8; votes++) {
                hall.list(votes);
            }
            check.same("the lot of a candidate", hall.setLot(false, i, 99), i);
            check.same("the lot of a list", hall.setLot(true, i, 0), i);
            check.same("they are two", hall.setLot(false, i, 0) + " " + hall.setLot(true, i, 99), "99 0");
        }
    }

    /** A and B have the lot 5, C has 4, so that C wins against both, and A against B; D has ballots of its own. */
    private static Ballothall withLots(Object... ballots) {
        Ballothall hall = Houses.withBallots(4, ballots);
        hall.setLot(false, 0, 5);
        hall.setLot(false, 1, 5);
        hall.setLot(false, 2, 4);
        hall.setLot(false, 3, 99);
        return hall;
    }

    private static Ballothall listsWithLots(int... votes) {
        Ballothall hall = Houses.withLists(votes);
        hall.setLot(true, 0, 5);
        hall.setLot(true, 1, 5);
        hall.setLot(true, 2, 4);
        return hall;
    }

    private static void ties() {
        check.sentence(0, "Wherever a tie is decided by lot, the one with the smaller lot wins, and among equal lots the one with the "
            + "smaller number.");
        for (int way = 0; way < 5; way++) {
            check.same("the smaller lot, by the way " + way, withLots("A=B=C", 3).winner(way), 2);
            Ballothall two = withLots("A=B", 3);
            two.setLot(false, 2, 99);
            check.same("the smaller number, by the way " + way, two.winner(way), 0);
        }
        for (int method = 0; method < 6; method++) {
            Ballothall lists = listsWithLots(7, 7, 7);
            lists.seats(method, 3, 0);
            // With three seats for three, each gets a whole one by the method 5, list by list.
            check.same("lists, method " + method, join(3, lists::seatAt), method == 5 ? "0 1 2" : "2 0 1");
            lists.seats(method, 2, 0);
            check.same("two seats, method " + method, join(2, lists::seatAt), "2 0");
            lists.ally(0, 3);
            lists.ally(1, 3);
            lists.ally(2, 3);
            lists.seats(method, 2, 0);
            check.same("in an alliance, method " + method, join(3, lists::seatsOf), "1 0 1");
        }
        check.sentence(0, "(To win means to be taken first, to be elected, or to get the seat; where one is excluded, the one that "
            + "does not win is excluded.)");
        check.same("taken first", join(4, withLots("A=B=C", 3)::proportionalAt), "2 0 1 3");
        Ballothall quota = withLots("A", 4, "B", 4, "C", 4);
        quota.transferable(3);
        check.same("elected with the quota", join(3, quota::electedAt), "2 0 1");
        Ballothall rest = withLots("D", 8);
        rest.transferable(3);
        check.same("elected since they are not more than the seats", join(3, rest::electedAt) + ", "
            + rest.excludedAt(0), "3 2 0, 1");
        Ballothall none = withLots("A", 2, "B", 2, "C", 2, "D", 3);
        none.transferable(1);
        check.same("excluded", join(3, none::excludedAt), "1 0 2");
        check.same("goes in the runoff", join(3, none::runoffOut), "1 0 2");
    }

    private static void refusedCalls() {
        check.sentence(0, "a call that throws an exception changes nothing.");
        refused(TermsTest::full, STATE, "candidate()", Ballothall::candidate);
        refused(() -> Houses.busy("A>B>C>D>A>B>C>D>A>B>C>D>A>B>"), STATE, "type()", hall -> hall.type(0x414243L));
        refused(TermsTest::full, STATE, "ballots(1)", hall -> hall.ballots(1));
        refused(TermsTest::full, STATE, "list(1)", hall -> hall.list(1));
        refused(Ballothall::new, STATE, "transferable(1)", hall -> hall.transferable(1));
        refused(() -> Houses.withBallots(2, "A", 3), STATE, "solidQuotas(1)", hall -> hall.solidQuotas(1));
        refused(TermsTest::full, STATE, "gain(0)", hall -> hall.gain(0));
        refused(TermsTest::full, STATE, "gainAt(0, 0)", hall -> hall.gainAt(0, 0));
        refused(TermsTest::full, STATE, "ward(1, 1, 1)", hall -> hall.ward(1, 1, 1));
        refused(TermsTest::full, STATE, "member(1)", hall -> hall.member(1));
        refused(TermsTest::busy, ELEMENT, "seatAt(7)", hall -> hall.seatAt(7));
        refused(TermsTest::busy, ELEMENT, "electedAt(2)", hall -> hall.electedAt(2));
        refused(TermsTest::busy, ELEMENT, "excludedAt(4)", hall -> hall.excludedAt(4));
        refused(TermsTest::busy, ELEMENT, "writePile(9, 0)", hall -> hall.writePile(9, 0));
        refused(TermsTest::busy, ELEMENT, "consensusAt(4)", hall -> hall.consensusAt(4));
        refused(TermsTest::busy, ELEMENT, "runoffOut(3)", hall -> hall.runoffOut(3));
        refused(TermsTest::busy, ELEMENT, "gainAt(0, 4)", hall -> hall.gainAt(0, 4));
        refused(TermsTest::busy, ELEMENT, "proportionalAt(4)", hall -> hall.proportionalAt(4));
        refused(TermsTest::busy, ELEMENT, "districtEnd(2, 2)", hall -> hall.districtEnd(2, 2));
    }

    private static void wrongNumbers() {
        check.sentence(0, "An IndexOutOfBoundsException is thrown for a candidate, ballot kind, list, ward or member that does not "
            + "exist;");
        for (int none : new int[] {-2, 16, Integer.MAX_VALUE, Integer.MIN_VALUE}) {
            refused(TermsTest::busy, INDEX, "setLot(false)", hall -> hall.setLot(false, none, 0));
            refused(TermsTest::busy, INDEX, "setLot(true)", hall -> hall.setLot(true, none, 0));
            refused(TermsTest::busy, INDEX, "takeBack()", hall -> hall.takeBack(none, 1));
            refused(TermsTest::busy, INDEX, "countOf()", hall -> hall.countOf(none));
            refused(TermsTest::busy, INDEX, "kindAt(), kind", hall -> hall.kindAt(none, 0, true));
            refused(TermsTest::busy, INDEX, "kindAt(), candidate", hall -> hall.kindAt(0, none, false));
            refused(TermsTest::busy, INDEX, "setVotes()", hall -> hall.setVotes(none, 0));
            refused(TermsTest::busy, INDEX, "ally()", hall -> hall.ally(none, 0));
            refused(TermsTest::busy, INDEX, "seatsOf()", hall -> hall.seatsOf(none));
            refused(TermsTest::busy, INDEX, "writePile()", hall -> hall.writePile(0, none));
            refused(TermsTest::busy, INDEX, "ahead(), first", hall -> hall.ahead(none, 0));
            refused(TermsTest::busy, INDEX, "ahead(), second", hall -> hall.ahead(0, none));
            refused(TermsTest::busy, INDEX, "strongestPath(), first", hall -> hall.strongestPath(none, 0));
            refused(TermsTest::busy, INDEX, "strongestPath(), second", hall -> hall.strongestPath(0, none));
            refused(TermsTest::busy, INDEX, "votesFor()", hall -> hall.votesFor(0, none));
            refused(TermsTest::busy, INDEX, "swings()", hall -> hall.swings(none));
            refused(TermsTest::busy, INDEX, "ordersTurned()", hall -> hall.ordersTurned(none));
            refused(TermsTest::busy, INDEX, "meanRank()", hall -> hall.meanRank(none));
            refused(TermsTest::busy, INDEX, "seatShare()", hall -> hall.seatShare(none));
        }
    }

    private static void wrongArguments() {
        check.sentence(0, "an IllegalArgumentException for a parameter that is out of its range.");
        for (int wrong : new int[] {-1, 10000001, Integer.MAX_VALUE, Integer.MIN_VALUE}) {
            refused(TermsTest::busy, ARGUMENT, "setLot()", hall -> hall.setLot(true, 0, wrong));
            refused(TermsTest::busy, ARGUMENT, "ballots()", hall -> hall.ballots(wrong));
            refused(TermsTest::busy, ARGUMENT, "takeBack()", hall -> hall.takeBack(0, wrong));
            refused(TermsTest::busy, ARGUMENT, "list()", hall -> hall.list(wrong));
            refused(TermsTest::busy, ARGUMENT, "setVotes()", hall -> hall.setVotes(0, wrong));
            refused(TermsTest::busy, ARGUMENT, "ally()", hall -> hall.ally(0, wrong));
            refused(TermsTest::busy, ARGUMENT, "seats(), method", hall -> hall.seats(wrong, 5, 0));
            refused(TermsTest::busy, ARGUMENT, "seats(), seats", hall -> hall.seats(0, wrong, 0));
            refused(TermsTest::busy, ARGUMENT, "seats(), threshold", hall -> hall.seats(0, 5, wrong));
            refused(TermsTest::busy, ARGUMENT, "lossAt()", hall -> hall.lossAt(wrong));
            refused(TermsTest::busy, ARGUMENT, "transferable()", hall -> hall.transferable(wrong));
            refused(TermsTest::busy, ARGUMENT, "solidQuotas()", hall -> hall.solidQuotas(wrong));
            refused(TermsTest::busy, ARGUMENT, "winner()", hall -> hall.winner(wrong));
            refused(TermsTest::busy, ARGUMENT, "votesFor()", hall -> hall.votesFor(wrong, 0));
            refused(TermsTest::busy, ARGUMENT, "winnerWith(), way", hall -> hall.winnerWith(wrong, 0));
            refused(TermsTest::busy, ARGUMENT, "winnerWith(), count", hall -> hall.winnerWith(0, wrong == -1 ? 1001 : wrong));
            refused(TermsTest::busy, ARGUMENT, "gain()", hall -> hall.gain(wrong));
            refused(TermsTest::busy, ARGUMENT, "gainAt()", hall -> hall.gainAt(wrong, 0));
            refused(TermsTest::busy, ARGUMENT, "spoiler()", hall -> hall.spoiler(wrong));
            refused(TermsTest::busy, ARGUMENT, "ward(), heads", hall -> hall.ward(wrong, 0, 0));
            refused(TermsTest::busy, ARGUMENT, "ward(), votesA", hall -> hall.ward(1, wrong, 0));
            refused(TermsTest::busy, ARGUMENT, "ward(), votesB", hall -> hall.ward(1, 0, wrong));
            refused(TermsTest::busy, ARGUMENT, "greatestDistrict()", hall -> hall.greatestDistrict(wrong));
            refused(TermsTest::busy, ARGUMENT, "districtEnd()", hall -> hall.districtEnd(wrong, 0));
            refused(TermsTest::busy, ARGUMENT, "districtsWon(), districts", hall -> hall.districtsWon(wrong, 0));
            refused(TermsTest::busy, ARGUMENT, "districtsWon(), party", hall -> hall.districtsWon(1, wrong));
            refused(TermsTest::busy, ARGUMENT, "wasted(), districts", hall -> hall.wasted(wrong, 0));
            refused(TermsTest::busy, ARGUMENT, "wasted(), party", hall -> hall.wasted(1, wrong));
            refused(TermsTest::busy, ARGUMENT, "member()", hall -> hall.member(wrong));
            refused(TermsTest::busy, ARGUMENT, "setQuota()", hall -> hall.setQuota(wrong));
        }
    }

    // ---- section 2

    /** The length of the longest start of a text that a ballot of the first candidates can have. */
    private static int goodStart(String text, int candidates) {
        int length = 0;
        while (length < text.length() && isGoodStart(text.substring(0, length + 1), candidates)) {
            length++;
        }
        return length;
    }

    private static boolean isGoodStart(String start, int candidates) {
        char last = (char) ('A' + candidates - 1);
        return candidates > 0 && start.matches("([A-" + last + "][>|=])*[A-" + last + "]?")
            && !start.matches(".*([A-Z]).*\\1.*") && !start.matches(".*\\|.*\\|.*");
    }

    private static void grammar() {
        check.sentence(0, "A ballot is told by the text: ballot = group { (\">\" | \"|\") group }, where group = letter { \"=\" "
            + "letter };");
        String signs = "ABC>|= ";
        for (int candidates = 0; candidates <= 2; candidates++) {
            for (int length = 1; length <= 5; length++) {
                int texts = (int) Math.pow(signs.length(), length);
                Ballothall hall = Check.withCandidates(candidates);
                for (int number = 0; number < texts; number++) {
                    StringBuilder text = new StringBuilder();
                    for (int rest = number, i = 0; i < length; i++, rest /= signs.length()) {
                        text.append(signs.charAt(rest % signs.length()));
                    }
                    if (number % 200 == 199) {
                        hall = Check.withCandidates(candidates);
                    }
                    int good = goodStart(text.toString(), candidates);
                    boolean isBallot = good == length && Character.isLetter(text.charAt(length - 1));
                    int got = Check.cast(hall, text.toString(), 1);
                    check.same("ballots(1) of \"" + text + "\" with " + candidates + " candidates", isBallot ? got >= 0 : got,
                        isBallot ? true : -3 - good);
                }
            }
        }
    }

    private static void ranks() {
        check.sentence(0, "The candidates of the first group are ranked ahead of those of the second one, and so on;");
        Ballothall hall = Houses.withBallots(5, "C>A=D|B", 6);
        check.same("the groups", join(5, c -> hall.kindAt(0, c, true)), "1 2 0 1 3");
        int[] ranks = {1, 2, 0, 1, 3};
        for (int a = 0; a < 5; a++) {
            for (int b = 0; b < 5; b++) {
                check.same("ahead(" + a + ", " + b + ")", hall.ahead(a, b), ranks[a] < ranks[b] ? 6 : 0);
            }
        }
        check.sentence(0, "without a bar those of the first group are.");
        check.same("a first group of two", join(4, c -> Houses.withBallots(4, "D=B>A", 1).kindAt(0, c, false)), "0 1 0 1");
        check.same("with a bar", join(4, c -> Houses.withBallots(4, "D=B>A|C", 1).kindAt(0, c, false)), "1 1 0 1");
        check.sentence(0, "Each kind has a count.");
        Ballothall counts = Houses.withBallots(3, "A", 5, "B", 6, "C", 7, "B", 10);
        check.same("the counts", join(3, counts::countOf), "5 16 7");
    }

    // ---- section 3

    private static void listsOfAlliances() {
        check.sentence(0, "Each list has a number of votes and an alliance from 0 to 4;");
        Ballothall hall = Houses.withLists(11, 22, 33, 44, 55);
        for (int i = 0; i < 5; i++) {
            check.same("ally()", hall.ally(i, i), 0);
        }
        check.same("the alliances", join(5, i -> hall.ally(i, 4 - i)), "0 1 2 3 4");
        check.same("the votes", join(5, i -> hall.setVotes(i, 1)), "11 22 33 44 55");
    }

    private static void quotients() {
        check.sentence(0, "To distribute seats to units by a method from 0 to 4: the quotients of a unit are its votes divided by each "
            + "divisor;");
        // 100, 80, 30 and 20 votes. The second method has 100 / 5 = 20 / 1, the third 100 / 7 = 20 / 1.4, the
        // fourth 80 / 4 = 20 / 1, the fifth 100 / 5 = 80 / 4: the list with more votes is the first of these.
        String[] orders = {"0 1 0 1 0 2 1 0", "0 1 0 2 1 0 3 1", "0 1 0 1 2 0 1 0", "0 1 2 0 1 3 0 1", "0 1 0 1 0 0 1 0"};
        Ballothall hall = Houses.withLists(100, 80, 30, 20);
        for (int method = 0; method < 5; method++) {
            check.same("units", hall.seats(method, 8, 0), 4);
            check.same("the order by the method " + method, join(8, hall::seatAt), orders[method]);
        }
        check.sentence(0, "the seats are given one by one, each to the unit with the greatest quotient that was not used yet;");
        for (int method = 0; method < 5; method++) {
            for (int seats = 1; seats <= 8; seats++) {
                hall.seats(method, seats, 0);
                check.same("the first " + seats, join(seats, hall::seatAt), orders[method].substring(0, 2 * seats - 1));
                check.same("no more", Check.orThrown(() -> hall.seatAt(8)), "NoSuchElementException");
            }
        }
    }

    // ---- section 4

    private static void parcels() {
        check.sentence(0, "A parcel is a weight of ballots of one kind at a candidate.");
        Ballothall hall = Houses.withBallots(4, "A>C", 6, "A>D", 3, "B=C", 3, "C", 1);
        hall.transferable(2);
        // The quota is 5: 4/9 of the six go to C, and 4/9 of the three to D.
        check.same("of each kind", Check.pile(hall, 1, 2) + " " + Check.pile(hall, 1, 3), "31/6 4/3");
        check.sentence(0, "The pile of a candidate is the sum of the weights of their parcels.");
        check.same("of three kinds", join(4, c -> Check.pile(hall, 0, c)) + ", " + Check.pile(hall, 0, NONE), "9 3/2 5/2 0, 0");
        check.sentence(0, "A candidate is hopeful, elected or excluded.");
        for (int seats = 1; seats <= 3; seats++) {
            Ballothall count = Houses.withBallots(6, "A>C", 6, "A>D", 3, "B=C", 3, "C", 1, "E=F>A", 2);
            int elected = count.transferable(seats);
            int excluded = count.steps() - elected;
            int set = 0;
            for (int i = 0; i < elected; i++) {
                set += 1 << count.electedAt(i);
            }
            for (int i = 0; i < excluded; i++) {
                set += 1 << count.excludedAt(i);
            }
            check.same("one of them only", Integer.bitCount(set), elected + excluded);
            check.same("no more of them", Check.orThrown(() -> count.electedAt(elected)) + " "
                + Check.orThrown(() -> count.excludedAt(excluded)), "NoSuchElementException NoSuchElementException");
        }
    }

    // ---- section 5

    private static void paths() {
        check.sentence(0, "The strongest path from a to b is one with the greatest strength;");
        // A beats B by 8, B beats C by 7, C beats A by 6, and A beats D by 9, D beats C by 5 of 9.
        Ballothall hall = Houses.withBallots(4, "A>B>D>C", 3, "B>C>A>D", 2, "C>A>D>B", 2, "D>C>A>B", 1, "A>B", 1);
        check.same("the ballots for each", join(4, a -> join(4, b -> hall.ahead(a, b))),
            "0 7 4 8 2 0 6 6 5 3 0 4 1 3 4 0");
        // C beats A and A beats B: 5. A beats B and B beats C: 6, and so from A to D, or D to none.
        check.same("from each to each", join(4, a -> join(4, b -> hall.strongestPath(a, b))),
            "0 7 6 8 5 0 6 6 5 5 0 5 0 0 0 0");
        check.same("who wins by them", hall.pathWinners(), 1);
    }

    // ---- sections 6 and 7

    private static void ways() {
        check.sentence(0, "2 strongest paths: of those who win by them, by lot;");
        Ballothall ring = Houses.withBallots(3, "A>B>C", 1, "B>C>A", 1, "C>A>B", 1);
        check.same("all win", ring.pathWinners() + " " + ring.winner(2), "7 0");
        ring.setLot(false, 2, 0);
        check.same("of equal lots the smaller number", ring.winner(2), 0);
        ring.setLot(false, 0, 1);
        check.same("the smallest lot", ring.winner(2), 2);
        ring.candidate();
        ring.setLot(false, 3, 0);
        ring.setLot(false, 2, 50);
        check.same("not one that does not win by them", ring.winner(2), 0);
        check.sentence(0, "most points;");
        Ballothall points = Houses.withBallots(3, "A>B", 5, "B>C", 4);
        check.same("the points", join(3, c -> points.votesFor(3, c)), "20 26 8");
        check.same("B has most", points.winner(3) + " " + points.winner(0), "1 0");
        check.sentence(0, "4 most approvals.");
        Ballothall approvals = Houses.withBallots(3, "A>B|C", 5, "B", 1, "C", 3);
        check.same("the approvals", join(3, c -> approvals.votesFor(4, c)), "5 6 3");
        check.same("B has most", approvals.winner(4) + " " + approvals.winner(0), "1 0");
        check.sentence(0, "without candidates nobody wins.");
        Ballothall nobody = Houses.withBallots(0, "", 3);
        check.same("by each way", join(5, nobody::winner), "-1 -1 -1 -1 -1");
        check.same("and there is no spoiler, no gain, no safe winner", nobody.spoiler(0) + " " + nobody.gain(1) + " "
            + nobody.safeAfter(), "-1 -1 -1");
    }

    private static void seatsOneByOne() {
        check.sentence(0, "Seats are taken one by one.");
        // A 12; then B and C have 12 halves less: B 6, C 6 + 1, D 5; then B 4, D 5.
        Ballothall hall = Houses.withBallots(4, "A=B=C", 12, "C", 1, "D", 5);
        check.same("the one with most first", join(4, hall::proportionalAt), "2 0 3 1");
    }

    // ---- section 8

    private static void recounts() {
        check.sentence(0, "safeAfter() looks at the way 0: the ballots are looked at kind by kind, in the order of their numbers.");
        check.same("those of the winner first", Houses.withBallots(2, "A", 6, "B", 4).safeAfter(), 5);
        check.same("those of the winner last", Houses.withBallots(2, "B", 4, "A", 6).safeAfter(), 9);
        check.same("those of the winner on both sides", Houses.withBallots(2, "A", 3, "B", 4, "A>B", 2).safeAfter(), 9);
        check.same("a kind that counts for nobody", Houses.withBallots(2, "A=B", 3, "A", 4, "B", 1).safeAfter(), 6);
        Ballothall points = Houses.withBallots(3, "A>B", 5, "B>C", 4, "C>B", 2);
        check.same("the winner by points is another one", points.winner(3) + " " + points.winner(0) + " " + points.safeAfter(),
            "1 0 10");
    }

    private static void wards() {
        check.sentence(0, "Wards stand in a row.");
        Ballothall hall = Houses.withWards(new int[] {30, 1, 9}, new int[] {10, 8, 2}, new int[] {10, 7, 3},
            new int[] {40, 2, 8});
        check.same("the two in the middle are neighbors", hall.greatestDistrict(3), 40);
        check.same("their ends", join(3, i -> hall.districtEnd(3, i)), "0 2 3");
        hall.ward(5, 0, 0);
        check.same("the new one is the last one", join(3, i -> hall.districtEnd(3, i)), "0 2 4");
        check.same("with the one ahead of it", hall.greatestDistrict(3), 45);
        check.sentence(0, "Each has heads, and votes for two parties.");
        check.same("the party 0 wins the district in the middle, the party 1 the others",
            hall.districtsWon(3, 0) + " " + hall.districtsWon(3, 1), "1 2");
        check.sentence(0, "(With equal votes nobody wins.)");
        Ballothall equal = Houses.withWards(new int[] {1, 5, 5}, new int[] {1, 0, 0}, new int[] {1, 7, 6});
        check.same("a district with 5 : 5 and one with 0 : 0", equal.districtsWon(3, 0) + " " + equal.districtsWon(3, 1), "1 0");
        check.same("all of 5 and of 6, and 7 less 6 less 1", equal.wasted(3, 0) + " " + equal.wasted(3, 1), "5 11");
    }

    private static void councils() {
        check.sentence(0, "A council has members with weights, and a quota.");
        Ballothall hall = Houses.withMembers(6, 4, 3, 2, 1);
        // Winning without more: 4 3, 4 2, 3 2 1, and with a member more than these.
        check.same("the sets", join(4, hall::swings), "5 3 3 1");
        check.same("the orders", join(4, hall::ordersTurned), "10 6 6 2");
        check.same("the quota before", hall.setQuota(10), 6);
        check.same("with the quota of all", join(4, hall::swings) + ", " + join(4, hall::ordersTurned), "1 1 1 1, 6 6 6 6");
    }

    public static void main(String[] arguments) {
        lots();
        ties();
        refusedCalls();
        wrongNumbers();
        wrongArguments();
        grammar();
        ranks();
        listsOfAlliances();
        quotients();
        parcels();
        paths();
        ways();
        seatsOneByOne();
        recounts();
        wards();
        councils();
        check.end();
    }
}
