/** Houses for the tests of boundary cases, made by as few calls as they need. */
final class Houses {
    private static final int[] SOME_WEIGHTS = {4, 3, 2, 0, 1000, 7, 6, 5, 9, 8, 11, 10};

    private Houses() {
    }

    /** 4 candidates, 3 kinds, 3 lists, 3 wards, 3 members: there is room for each of them. Some 45 calls. */
    static Ballothall busy(String text) {
        Ballothall hall = Check.withCandidates(4);
        Check.cast(hall, "A>B>C", 40);
        Check.cast(hall, "B=C|A", 35);
        Check.cast(hall, "D>A", 20);
        hall.list(50);
        hall.list(30);
        hall.list(20);
        hall.ally(1, 2);
        hall.seats(0, 7, 0);
        hall.transferable(2);
        hall.ward(10, 5, 6);
        hall.ward(20, 7, 2);
        hall.ward(15, 1, 9);
        hall.member(4);
        hall.member(3);
        hall.member(2);
        hall.setQuota(5);
        hall.setLot(false, 1, 0);
        hall.setLot(false, 2, 77);
        hall.setLot(true, 2, 0);
        hall.setVotes(2, 25);
        hall.takeBack(0, 1);
        hall.writePile(1, 1);
        Check.type(hall, text);
        return hall;
    }

    /** As many of everything as there can be, and one kind with 1000000 ballots. Some 160 calls. */
    static Ballothall full(String text) {
        Ballothall hall = withKinds(30);
        for (int i = 1; i < 10; i++) {
            Check.cast(hall, "A>B", 100000);
        }
        Check.cast(hall, "A>B", 99999);
        for (int i = 0; i < 8; i++) {
            hall.list(1000 + i * 77);
        }
        for (int i = 0; i < 16; i++) {
            hall.ward(1 + i * 5 % 16, 10 + i, 25 - i);
        }
        for (int weight : SOME_WEIGHTS) {
            hall.member(weight);
        }
        hall.setQuota(600);
        hall.ally(6, 4);
        hall.ally(7, 4);
        hall.seats(5, 60, 5);
        hall.transferable(3);
        hall.setLot(false, 7, 0);
        hall.setLot(true, 7, 99);
        hall.writePile(3, 1);
        Check.type(hall, text);
        return hall;
    }

    /** 8 candidates, and kinds with one ballot each: A>B, A>C and so on. */
    static Ballothall withKinds(int kinds) {
        Ballothall hall = Check.withCandidates(8);
        for (int kind = 0; kind < kinds; kind++) {
            Check.cast(hall, kindText(kind), 1);
        }
        return hall;
    }

    /** A text of two different letters for each number from 0 to 55. */
    static String kindText(int kind) {
        int first = kind / 7;
        int second = kind % 7;
        return (char) ('A' + first) + ">" + (char) ('A' + second + (second >= first ? 1 : 0));
    }

    static Ballothall withBallots(int candidates, Object... ballots) {
        Ballothall hall = Check.withCandidates(candidates);
        for (int i = 0; i < ballots.length; i += 2) {
            Check.cast(hall, (String) ballots[i], (Integer) ballots[i + 1]);
        }
        return hall;
    }

    static Ballothall withLists(int... votes) {
        Ballothall hall = new Ballothall();
        for (int v : votes) {
            hall.list(v);
        }
        return hall;
    }

    /** Rows of heads, votes of the party 0, votes of the party 1. */
    static Ballothall withWards(int[]... wards) {
        Ballothall hall = new Ballothall();
        for (int[] ward : wards) {
            hall.ward(ward[0], ward[1], ward[2]);
        }
        return hall;
    }

    static Ballothall withMembers(int quota, int... weights) {
        Ballothall hall = new Ballothall();
        hall.setQuota(quota);
        for (int weight : weights) {
            hall.member(weight);
        }
        return hall;
    }
}
