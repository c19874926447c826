import java.math.BigInteger;
import java.util.function.Function;
import java.util.function.Supplier;

/** The boundary cases of promises 50 to 54, and of what holds for every call, sentence by sentence. */
public final class HouseEdgeTest {
    private static final Class<IndexOutOfBoundsException> INDEX = IndexOutOfBoundsException.class;
    private static final int MIN = Integer.MIN_VALUE;
    private static final int MAX = Integer.MAX_VALUE;
    private static final Check check = new Check("HouseEdgeTest");

    private static void refused(Supplier<Ballothall> maker, String what, Class<? extends RuntimeException> due,
            Function<Ballothall, Object> call) {
        check.refused(maker, what, due, call);
    }

    private static Ballothall busy() {
        return Houses.busy("B>C");
    }

    private static Ballothall full() {
        return Houses.full("B>A");
    }

    // ---- promise 50

    private static void noChange() {
        check.sentence(50, "NONE if there was none");
        Ballothall hall = new Ballothall();
        check.same("at first", hall.undo() + " " + hall.undo(), "-1 -1");
        hall.candidate();
        check.same("the only one", hall.undo() + " " + hall.undo() + " " + hall.undo(), "0 -1 -1");
        check.same("then another one", hall.candidate() + " " + hall.undo() + " " + hall.undo(), "0 0 -1");
    }

    private static void twentyChanges() {
        check.sentence(50, "at most the latest 20 changes can be undone");
        for (int changes : new int[] {1, 19, 20, 21, 40, 41, 100}) {
            Ballothall hall = new Ballothall();
            for (int i = 0; i < changes; i++) {
                hall.setQuota(2 + i);
            }
            int most = Math.min(changes, 20);
            for (int left = most - 1; left >= 0; left--) {
                check.same("of " + changes, hall.undo(), left);
            }
            check.same("no more of " + changes, hall.undo(), -1);
            check.same("the quota that stays of " + changes, hall.setQuota(1), changes - most + 1);
            check.same("then one change", hall.undo(), 0);
        }
        Ballothall again = new Ballothall();
        for (int i = 0; i < 25; i++) {
            again.setQuota(2 + i);
        }
        for (int i = 0; i < 5; i++) {
            again.undo();
        }
        for (int i = 0; i < 4; i++) {
            again.setQuota(100 + i);
        }
        check.same("20 less 5 and 4 more are 19", again.undo(), 18);
        again.setQuota(200);
        again.setQuota(201);
        check.same("20 again", again.undo(), 19);
        again.setQuota(202);
        again.setQuota(203);
        check.same("still 20", again.undo(), 19);
        for (int left = 18; left >= 0; left--) {
            again.undo();
        }
        check.same("the quota before them", again.undo() + " " + again.setQuota(1), "-1 7");
    }

    private static void eachChangeCounts() {
        check.sentence(50, "Changes are calls of candidate(), setLot(), ballots() without an error, takeBack(), list(), setVotes(), "
            + "ally(), seats(), transferable(), ward(), member() and setQuota()");
        Ballothall hall = new Ballothall();
        hall.candidate();
        hall.setLot(false, 0, 5);
        Check.cast(hall, "A", 3);
        Check.cast(hall, "A", 4);
        hall.takeBack(0, 2);
        hall.list(7);
        hall.setLot(true, 0, 6);
        hall.setVotes(0, 8);
        hall.ally(0, 2);
        hall.seats(0, 3, 0);
        hall.transferable(1);
        hall.ward(1, 2, 3);
        hall.member(4);
        hall.setQuota(9);
        check.same("setQuota() is undone", hall.undo(), 13);
        check.same("member() is there", hall.setQuota(9), 1);
        check.same("the quota again", hall.undo(), 13);
        check.same("member() is undone", hall.undo() + Check.orThrown(() -> hall.swings(0)), "12IndexOutOfBoundsException");
        check.same("ward() is undone", hall.undo() + Check.orThrown(() -> hall.wasted(1, 0)), "11IllegalArgumentException");
        check.same("transferable() is undone", hall.undo() + " " + hall.quota(), "10 -1");
        check.same("seats() is undone", hall.undo() + " " + hall.seatsOf(0), "9 0");
        check.same("ally() is undone", hall.undo() + " " + hall.ally(0, 0), "8 0");
        hall.undo();
        check.same("setVotes() is undone", hall.undo() + " " + hall.setVotes(0, 0), "7 7");
        hall.undo();
        check.same("setLot(true) is undone", hall.undo() + " " + hall.setLot(true, 0, 0), "6 0");
        hall.undo();
        check.same("list() is undone", hall.undo() + Check.orThrown(() -> hall.seatsOf(0)), "5IndexOutOfBoundsException");
        check.same("takeBack() is undone", hall.undo() + " " + hall.countOf(0), "4 7");
        check.same("ballots() of a kind that was there is undone", hall.undo() + " " + hall.countOf(0), "3 3");
        check.same("ballots() of a new kind is undone", hall.undo() + Check.orThrown(() -> hall.countOf(0)),
            "2IndexOutOfBoundsException");
        check.same("setLot(false) is undone", hall.undo() + " " + hall.setLot(false, 0, 0), "1 0");
        hall.undo();
        check.same("candidate() is undone", hall.undo() + Check.orThrown(() -> hall.meanRank(0)),
            "0IndexOutOfBoundsException");
        check.same("nothing is left", hall.undo(), -1);
        Ballothall again = Houses.withBallots(2, "A", 5, "B", 7);
        again.undo();
        check.same("another kind with the number of one that was undone", Check.cast(again, "A=B", 2) + " "
            + again.countOf(1) + " " + again.allBallots() + " " + again.kindAt(1, 0, true), "1 2 7 0");
        again.undo();
        again.undo();
        check.same("nothing of it is left", again.allBallots() + " " + again.ahead(0, 1) + " " + again.votesFor(4, 0)
            + " " + again.winner(0), "0 0 0 0");
    }

    private static void changesWithoutDifference() {
        check.sentence(50, "that throw nothing, also if nothing is different then");
        Ballothall hall = Houses.withBallots(1, "A", 2);
        hall.list(5);
        hall.undo();
        hall.undo();
        hall.undo();
        hall.candidate();
        Check.cast(hall, "A", 2);
        hall.list(5);
        hall.seats(0, 1, 0);
        hall.transferable(1);
        hall.setLot(false, 0, 0);
        hall.setLot(true, 0, 0);
        hall.setVotes(0, 5);
        hall.ally(0, 0);
        hall.seats(0, 1, 0);
        hall.transferable(1);
        hall.setQuota(1);
        check.same("twelve changes, one undone", hall.undo(), 11);
        String state = Check.stateOf(hall);
        for (int left = 10; left >= 5; left--) {
            check.same("undo()", hall.undo(), left);
        }
        check.same("the state is the same", Check.stateOf(hall), state);
        hall.undo();
        check.same("before the first count", hall.quota(), -1);
        hall.undo();
        check.same("before the first seats", hall.seatsOf(0), 0);
    }

    private static void noChanges() {
        check.sentence(50, "ballots() without an error");
        Ballothall hall = busy();
        check.same("ballots() with an error", Check.cast(hall, ">", 5) + " " + hall.undo(), "-7 19");
        check.sentence(50, "Changes are calls of");
        Supplier<Ballothall> other = () -> {
            Ballothall house = Houses.busy("");
            Check.type(house, "A");
            house.winnerWith(0, 9);
            house.seatsOf(0);
            house.lossAt(60);
            house.writePile(0, 0);
            house.solidQuotas(1);
            house.consensusAt(0);
            house.gain(0);
            house.spoiler(0);
            house.proportionalAt(0);
            house.safeAfter();
            house.districtEnd(2, 0);
            house.swings(0);
            house.ordersTurned(0);
            house.checksum();
            house.errors();
            Check.orThrown(() -> house.setQuota(0));
            Check.orThrown(() -> house.candidate() + house.undo());
            return house;
        };
        Ballothall none = other.get();
        check.same("the output is another one", none.outputByte(0), (int) '4');
        check.same("candidate() pushed the oldest one out", none.undo(), 18);
        Ballothall same = Houses.busy("");
        same.candidate();
        same.undo();
        same.undo();
        check.same("nothing else is undone", none.checksum() + " " + none.undo(), same.checksum() + " " + same.undo());
    }

    private static void textAndOutputStay() {
        check.sentence(50, "The text buffer and the output are not concerned.");
        Ballothall hall = busy();
        String before = Check.output(hall);
        hall.ballots(2);
        hall.undo();
        check.same("the text that was read", hall.type(0), 0);
        Check.type(hall, "A>D");
        for (int i = 0; i < 10; i++) {
            hall.undo();
        }
        check.same("the text that was typed", hall.type(0), 3);
        check.same("the output", Check.output(hall), before);
        check.same("the text as it was", hall.ballots(1) + " " + hall.kindAt(3, 3, true), "3 1");
    }

    private static void latestFirst() {
        check.sentence(50, "Undoes the latest change that was not undone");
        Ballothall hall = new Ballothall();
        hall.setQuota(2);
        hall.setQuota(3);
        hall.undo();
        hall.setQuota(4);
        check.same("the third one", hall.undo() + " " + hall.setQuota(2), "1 2");
        hall.undo();
        check.same("then the first one", hall.undo() + " " + hall.setQuota(1), "0 1");
        Ballothall results = Houses.withLists(7, 3);
        for (int seats = 1; seats <= 60; seats++) {
            results.seats(0, seats, 0);
        }
        for (int seats = 60; seats > 40; seats--) {
            check.same("all seats", results.seatsOf(0) + results.seatsOf(1), seats);
            results.undo();
        }
        check.same("the seats that stay", results.seatsOf(0) + results.seatsOf(1) + " " + results.undo(), "40 -1");
        Ballothall counts = Houses.withBallots(8, "A", 1);
        for (int i = 0; i < 60; i++) {
            Check.cast(counts, "A", 100);
            counts.transferable(1 + i % 3);
        }
        for (int i = 59; i >= 50; i--) {
            check.same("the quota", counts.quota(), (101 + 100 * i) / (2 + i % 3) + 1);
            check.same("the elected", counts.electedAt(0) + " " + counts.steps(), "0 " + (i % 3 == 0 ? 1 : 8));
            counts.undo();
            counts.undo();
        }
        check.same("the count that stays", counts.quota() + " " + counts.undo(), (101 + 4900) / 3 + 1 + " -1");
    }

    // ---- promises 51 to 53

    private static void checksums() {
        check.sentence(51, "c, which is 0 at first");
        check.same("at first", new Ballothall().checksum(), 0);
        check.same("candidates do not count", Check.withCandidates(8).checksum(), 0);
        check.same("nor wards", Houses.withWards(new int[] {5, 5, 5}).checksum(), 0);
        check.sentence(51, "becomes 31 * c + n (as longs that wrap)");
        Ballothall hall = full();
        BigInteger due = BigInteger.ZERO;
        BigInteger factor = BigInteger.valueOf(31);
        for (int kind = 0; kind < 30; kind++) {
            due = due.multiply(factor).add(BigInteger.valueOf(kind == 0 ? 1000000 : 1));
        }
        for (int list = 0; list < 8; list++) {
            due = due.multiply(factor).add(BigInteger.valueOf(1000 + 77 * list));
            due = due.multiply(factor).add(BigInteger.valueOf(hall.seatsOf(list)));
        }
        for (int place = 0; place < 3; place++) {
            due = due.multiply(factor).add(BigInteger.valueOf(hall.electedAt(place)));
        }
        for (int weight : new int[] {4, 3, 2, 0, 1000, 7, 6, 5, 9, 8, 11, 10}) {
            due = due.multiply(factor).add(BigInteger.valueOf(weight));
        }
        check.same("far beyond a long", due.bitLength() > 64, true);
        check.same("a full house", hall.checksum(), due.longValue());
        check.sentence(51, "for each ballot kind its count; for each list its votes and its seats");
        Ballothall zero = Houses.withBallots(1, "A", 5, "", 3);
        zero.takeBack(0, 5);
        check.same("a kind with the count 0", zero.checksum(), 3);
        zero.takeBack(1, 2);
        zero.undo();
        zero.takeBack(1, 3);
        zero.undo();
        zero.undo();
        check.same("then 5", zero.checksum(), 5 * 31 + 3);
        Ballothall lists = Houses.withLists(10000000, 1);
        lists.seats(0, 60, 0);
        check.same("lists", lists.checksum(), ((10000000L * 31 + 60) * 31 + 1) * 31);
        check.sentence(51, "for each elected candidate of the latest count, in order, the candidate");
        Ballothall elected = Houses.withBallots(4, "D", 5, "C", 5);
        elected.transferable(2);
        elected.setLot(false, 3, 0);
        check.same("in their order", elected.checksum(), ((5L * 31 + 5) * 31 + 2) * 31 + 3);
        elected.transferable(2);
        check.same("in another order", elected.checksum(), ((5L * 31 + 5) * 31 + 3) * 31 + 2);
        elected.transferable(1);
        check.same("of the latest count alone", elected.checksum(), (5L * 31 + 5) * 31 + 3);
        check.sentence(51, "for each council member their weight");
        check.same("members", Houses.withMembers(1, 1000, 0, 7).checksum(), (1000L * 31) * 31 + 7);
    }

    private static void meanRanks() {
        check.sentence(52, "0.0 without ballots");
        check.same("without kinds", Check.withCandidates(1).meanRank(0), 0.0);
        Ballothall back = Houses.withBallots(2, "A", 5);
        back.takeBack(0, 5);
        check.same("all taken back", back.meanRank(1), 0.0);
        check.sentence(52, "the sum over all ballots of the number of the group (as for kindAt()), converted to double, divided by the "
            + "number of ballots, converted to double");
        Ballothall hall = Houses.withBallots(8, "A>B>C>D>E>F>G>H", 2, "", 1);
        for (int c = 0; c < 8; c++) {
            check.same("the rank of " + c, hall.meanRank(c), 2.0 * c / 3.0);
        }
        check.same("the last group of one letter", Houses.withBallots(8, "H", 3).meanRank(0), 1.0);
        Ballothall greatest = Check.withCandidates(8);
        for (int i = 0; i < 70; i++) {
            StringBuilder text = new StringBuilder("H>G>F>E>D>C>B>A");
            text.setCharAt(2 * (i % 7) + 1, '=');
            Check.cast(greatest, text.toString(), 100000);
        }
        check.same("the last one of seven groups, on 7 million ballots", greatest.meanRank(0), 6.0);
        check.same("in the first group of one kind, in the second of six", greatest.meanRank(6), 6.0 / 7.0);
        for (int candidate : new int[] {-1, 4, 8, MIN, MAX}) {
            refused(HouseEdgeTest::busy, "meanRank(" + candidate + ")", INDEX, house -> house.meanRank(candidate));
        }
        refused(HouseEdgeTest::full, "meanRank(8)", INDEX, house -> house.meanRank(8));
        check.same("the last one of eight", full().meanRank(7) > 1.9, true);
    }

    private static void seatShares() {
        check.sentence(53, "0.0f if none were");
        check.same("before seats()", Houses.withLists(5).seatShare(0), 0.0f);
        Ballothall none = Houses.withLists(0);
        none.seats(0, 60, 0);
        check.same("nobody takes part", none.seatShare(0), 0.0f);
        check.sentence(53, "Returns its seats, converted to float, divided by all seats that were given, converted to float");
        for (int method = 0; method < 6; method++) {
            Ballothall hall = Houses.withLists(2, 1, 0);
            hall.seats(method, 3, 0);
            check.same("a part of three", hall.seatShare(1), (float) hall.seatsOf(1) / 3.0f);
            check.same("none", hall.seatShare(2), 0.0f);
            hall.seats(method, 1, 20);
            check.same("all", hall.seatShare(0), 1.0f);
            hall.list(1000);
            check.same("one that came later", hall.seatShare(3), 0.0f);
            hall.undo();
            hall.undo();
            hall.undo();
            check.same("after undo", hall.seatShare(0), 0.0f);
        }
        Ballothall allied = Houses.withLists(41, 19, 40);
        allied.ally(0, 1);
        allied.ally(1, 1);
        allied.seats(5, 60, 0);
        check.same("of an alliance", allied.seatsOf(0) + " " + allied.seatShare(0), 25 + " " + 25.0f / 60.0f);
        for (int list : new int[] {-1, 3, 8, MIN, MAX}) {
            refused(HouseEdgeTest::busy, "seatShare(" + list + ")", INDEX, house -> house.seatShare(list));
        }
    }

    // ---- promise 54

    private static void noErrors() {
        check.sentence(54, "Returns the number; always 0.");
        check.same("a new house", new Ballothall().errors(), 0);
        check.same("a busy house", busy().errors(), 0);
        check.same("a full house", full().errors(), 0);
        for (int candidates = 1; candidates <= 8; candidates++) {
            for (int seats = 1; seats <= 3; seats++) {
                Ballothall hall = Check.withCandidates(candidates);
                hall.transferable(seats);
                check.same("a count without ballots", hall.errors(), 0);
                Check.cast(hall, "A", 1);
                hall.transferable(seats);
                Check.cast(hall, "A", 100000);
                hall.takeBack(0, 100000);
                check.same("other ballots than those of the count", hall.errors(), 0);
            }
        }
        for (int member = 0; member < 12; member++) {
            Ballothall council = Houses.withMembers(12000, new int[member + 1]);
            check.same("a council without weight", council.errors(), 0);
            council.setQuota(1);
            check.same("a council without weight and the quota 1", council.errors(), 0);
        }
        check.sentence(54, "the sets of candidates of that count with more whole quotas (of the ballots of that count) than elected "
            + "members, but not all of them elected");
        Ballothall ring = Houses.withBallots(2, "B", 100000);
        for (int i = 0; i < 25; i++) {
            ring.transferable(1);
        }
        ring.takeBack(0, 99999);
        Check.cast(ring, "A", 9);
        for (int i = 0; i < 25; i++) {
            ring.transferable(1);
            check.same("many counts of other ballots before", ring.electedAt(0) + " " + ring.errors(), "0 0");
        }
        Check.cast(ring, "B", 100000);
        check.same("many ballots that came later", ring.errors(), 0);
        check.sentence(54, "1 if some list has more votes and fewer seats than another one by the latest seats(), both having the "
            + "alliance 0 and the votes that they had then");
        Ballothall hall = Houses.withLists(100, 10, 40);
        hall.seats(0, 9, 0);
        hall.setVotes(1, 10000000);
        check.same("other votes than then", hall.errors(), 0);
        hall.list(500);
        check.same("a list that came later", hall.errors(), 0);
        hall.undo();
        hall.undo();
        hall.ally(1, 1);
        hall.ally(2, 1);
        hall.setVotes(0, 25);
        hall.seats(0, 1, 0);
        check.same("an alliance got the seat", hall.seatsOf(2) + " " + hall.errors(), "1 0");
        hall.ally(1, 0);
        hall.ally(2, 0);
        check.same("no alliance any more", hall.errors(), 0);
        Ballothall small = Houses.withLists(30, 40, 20);
        small.ally(0, 1);
        small.ally(2, 1);
        small.seats(0, 1, 0);
        small.ally(0, 0);
        small.ally(2, 0);
        check.same("a smaller list got the seat in its alliance", small.seatsOf(0) + " " + small.errors(), "1 0");
        check.sentence(54, "1 if a candidate beats all others, and does not win alone by strongest paths, or is not the first one of "
            + "the shortest consensus order");
        check.same("the other one of two beats the first one", Houses.withBallots(2, "A", 2, "B", 3).errors(), 0);
        check.same("a single candidate beats all others", Houses.withBallots(1, "A", 1).errors(), 0);
        check.same("the last one of eight", Houses.withBallots(8, "H", 1).errors(), 0);
    }

    // ---- what holds for every call

    private static void manyCalls() {
        check.sentence(0, "An object is used for at most 512 calls after it has been made; what later calls answer is free.");
        Ballothall hall = new Ballothall();
        for (int i = 0; i < 500; i++) {
            hall.setQuota(1 + i);
        }
        check.same("the 501st", hall.setQuota(1), 500);
        check.same("the 502nd", hall.undo(), 19);
        for (int i = 0; i < 8; i++) {
            check.same("the ones behind", hall.candidate(), i);
        }
        check.same("the 511th", hall.transferable(3), 3);
        check.same("the 512th", hall.electedAt(2), 2);
        Ballothall undone = full();
        for (int i = 0; i < 20; i++) {
            undone.undo();
        }
        check.same("the undone ones", undone.undo(), -1);
        for (int i = 0; i < 100; i++) {
            check.same("a count", undone.transferable(1 + i % 3), 1 + i % 3);
            check.same("its undo", undone.undo(), 0);
        }
    }

    private static void allLimitsTogether() {
        check.sentence(0, "There are at most 8 candidates, 30 ballot kinds, 8 lists, 16 wards and 12 council members, each of them "
            + "numbered from 0 as it is made.");
        Ballothall hall = full();
        check.same("the last candidate", hall.kindAt(0, 7, true), 2);
        check.same("the last kind", hall.countOf(29), 1);
        check.same("the last list", hall.setVotes(7, 1), 1539);
        check.same("the last ward", hall.districtEnd(16, 15), 15);
        check.same("the last member", hall.swings(11), 0);
        check.same("none behind them", Check.orThrown(() -> hall.kindAt(0, 8, true)) + Check.orThrown(() -> hall.countOf(30))
            + Check.orThrown(() -> hall.setVotes(8, 1)) + Check.orThrown(() -> hall.swings(12)),
            "IndexOutOfBoundsExceptionIndexOutOfBoundsExceptionIndexOutOfBoundsExceptionIndexOutOfBoundsException");
        check.same("no more of them", Check.orThrown(hall::candidate) + Check.orThrown(() -> hall.list(1))
            + Check.orThrown(() -> hall.ward(1, 1, 1)) + Check.orThrown(() -> hall.member(1)),
            "IllegalStateExceptionIllegalStateExceptionIllegalStateExceptionIllegalStateException");
    }

    public static void main(String[] arguments) {
        noChange();
        twentyChanges();
        eachChangeCounts();
        changesWithoutDifference();
        noChanges();
        textAndOutputStay();
        latestFirst();
        checksums();
        meanRanks();
        seatShares();
        noErrors();
        manyCalls();
        allLimitsTogether();
        check.end();
    }
}
