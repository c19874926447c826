import java.util.NoSuchElementException;
import java.util.function.Function;
import java.util.function.Supplier;

/** The boundary cases of section 8 (districts, councils) and of promises 41 to 49, sentence by sentence. */
public final class DistrictEdgeTest {
    private static final Class<IndexOutOfBoundsException> INDEX = IndexOutOfBoundsException.class;
    private static final Class<IllegalArgumentException> ARGUMENT = IllegalArgumentException.class;
    private static final Class<IllegalStateException> STATE = IllegalStateException.class;
    private static final Class<NoSuchElementException> ELEMENT = NoSuchElementException.class;
    private static final int MIN = Integer.MIN_VALUE;
    private static final int MAX = Integer.MAX_VALUE;
    private static final int MOST = 100000;
    private static final Check check = new Check("DistrictEdgeTest");

    private static void refused(Supplier<Ballothall> maker, String what, Class<? extends RuntimeException> due,
            Function<Ballothall, Object> call) {
        check.refused(maker, what, due, call);
    }

    private static Ballothall busy() {
        return Houses.busy("B>C");
    }

    private static Ballothall full() {
        return Houses.full("B>A");
    }

    private static String ends(Ballothall hall, int districts) {
        StringBuilder ends = new StringBuilder();
        for (int i = 0; i < districts; i++) {
            ends.append(i == 0 ? "" : " ").append(hall.districtEnd(districts, i));
        }
        return ends.toString();
    }

    private static Ballothall withHeads(int... heads) {
        Ballothall hall = new Ballothall();
        for (int h : heads) {
            hall.ward(h, 0, 0);
        }
        return hall;
    }

    // ---- promise 41

    private static void sixteenWards() {
        check.sentence(41, "Throws IllegalStateException if there are 16");
        Ballothall hall = new Ballothall();
        for (int i = 0; i < 16; i++) {
            check.same("ward()", hall.ward(1, 0, 0), i);
        }
        refused(DistrictEdgeTest::full, "a 17th", STATE, house -> house.ward(1, 0, 0));
        refused(DistrictEdgeTest::full, "a 17th without heads", ARGUMENT, house -> house.ward(0, 0, 0));
        refused(DistrictEdgeTest::full, "a 17th with wrong votes", ARGUMENT, house -> house.ward(1, -1, 0));
        refused(DistrictEdgeTest::full, "a 17th with too many votes", ARGUMENT, house -> house.ward(1, 0, MOST + 1));
        hall.undo();
        check.same("the 16th again", hall.ward(2, 0, 0), 15);
    }

    private static void rangesOfWards() {
        check.sentence(41, "heads: 1 to 100000");
        check.same("the least", Houses.withWards(new int[] {1, 5, 5}).greatestDistrict(1), 1);
        check.same("the greatest", Houses.withWards(new int[] {MOST, 5, 5}).greatestDistrict(1), MOST);
        for (int heads : new int[] {0, -1, MOST + 1, MIN, MAX}) {
            refused(DistrictEdgeTest::busy, "ward(" + heads + ", 5, 5)", ARGUMENT, hall -> hall.ward(heads, 5, 5));
        }
        check.sentence(41, "votesA: 0 to 100000, for the party 0");
        check.same("the least", Houses.withWards(new int[] {1, 0, 1}).wasted(1, 0), 0);
        check.same("the greatest", Houses.withWards(new int[] {1, MOST, MOST}).wasted(1, 0), MOST);
        check.same("the party 0", Houses.withWards(new int[] {1, 3, 7}).wasted(1, 0), 3);
        for (int votes : new int[] {-1, MOST + 1, MIN, MAX}) {
            refused(DistrictEdgeTest::busy, "ward(5, " + votes + ", 5)", ARGUMENT, hall -> hall.ward(5, votes, 5));
        }
        check.sentence(41, "votesB: 0 to 100000, for the party 1");
        check.same("the least", Houses.withWards(new int[] {1, 1, 0}).wasted(1, 1), 0);
        check.same("the greatest", Houses.withWards(new int[] {1, MOST, MOST}).wasted(1, 1), MOST);
        check.same("the party 1", Houses.withWards(new int[] {1, 7, 3}).wasted(1, 1), 3);
        for (int votes : new int[] {-1, MOST + 1, MIN, MAX}) {
            refused(DistrictEdgeTest::busy, "ward(5, 5, " + votes + ")", ARGUMENT, hall -> hall.ward(5, 5, votes));
        }
    }

    // ---- promises 42 to 45

    private static void numbersOfDistricts() {
        for (int districts : new int[] {0, -1, 4, 16, 17, MIN, MAX}) {
            check.sentence(42, "districts: 1 to the number of wards");
            refused(DistrictEdgeTest::busy, "greatestDistrict(" + districts + ")", ARGUMENT,
                hall -> hall.greatestDistrict(districts));
            check.sentence(43, "districts: 1 to the number of wards");
            refused(DistrictEdgeTest::busy, "districtEnd(" + districts + ", 0)", ARGUMENT,
                hall -> hall.districtEnd(districts, 0));
            refused(DistrictEdgeTest::busy, "districtEnd(" + districts + ", -1)", ARGUMENT,
                hall -> hall.districtEnd(districts, -1));
            check.sentence(44, "districts: 1 to the number of wards");
            refused(DistrictEdgeTest::busy, "districtsWon(" + districts + ", 0)", ARGUMENT,
                hall -> hall.districtsWon(districts, 0));
            refused(DistrictEdgeTest::busy, "districtsWon(" + districts + ", 2)", ARGUMENT,
                hall -> hall.districtsWon(districts, 2));
            check.sentence(45, "districts: 1 to the number of wards");
            refused(DistrictEdgeTest::busy, "wasted(" + districts + ", 1)", ARGUMENT, hall -> hall.wasted(districts, 1));
            refused(DistrictEdgeTest::busy, "wasted(" + districts + ", 2)", ARGUMENT, hall -> hall.wasted(districts, 2));
        }
        check.sentence(42, "districts: 1 to the number of wards");
        Ballothall hall = busy();
        check.same("the least, the greatest", hall.greatestDistrict(1) + " " + hall.greatestDistrict(3), "45 20");
        check.same("their ends", ends(hall, 1) + ", " + ends(hall, 3), "2, 0 1 2");
        check.same("their winners", hall.districtsWon(1, 1) + " " + hall.districtsWon(3, 1), "1 2");
        check.same("what is wasted", hall.wasted(1, 0) + " " + hall.wasted(3, 0), "13 8");
        for (int districts : new int[] {0, 1, 2}) {
            refused(Ballothall::new, "without wards", ARGUMENT, house -> house.greatestDistrict(districts));
            refused(Ballothall::new, "without wards", ARGUMENT, house -> house.districtEnd(districts, 0));
            refused(Ballothall::new, "without wards", ARGUMENT, house -> house.districtsWon(districts, 0));
            refused(Ballothall::new, "without wards", ARGUMENT, house -> house.wasted(districts, 0));
        }
        refused(DistrictEdgeTest::full, "17 districts", ARGUMENT, house -> house.greatestDistrict(17));
        check.same("16 districts", full().greatestDistrict(16), 16);
        Ballothall undone = withHeads(5, 6);
        undone.undo();
        check.same("a ward that was undone", Check.orThrown(() -> undone.greatestDistrict(2)), "IllegalArgumentException");
    }

    private static void placesOfDistricts() {
        check.sentence(43, "Throws NoSuchElementException if there is no such district");
        for (int index : new int[] {-1, 2, 3, 16, MIN, MAX}) {
            refused(DistrictEdgeTest::busy, "districtEnd(2, " + index + ")", ELEMENT, hall -> hall.districtEnd(2, index));
        }
        check.same("the first and the last one", busy().districtEnd(2, 0) + " " + busy().districtEnd(2, 1), "1 2");
        refused(DistrictEdgeTest::full, "districtEnd(16, 16)", ELEMENT, hall -> hall.districtEnd(16, 16));
        check.same("the 16th", full().districtEnd(16, 15), 15);
        for (int districts = 1; districts <= 16; districts++) {
            check.same("the last district ends with the last ward", full().districtEnd(districts, districts - 1), 15);
        }
    }

    private static void parties() {
        for (int party : new int[] {-1, 2, MIN, MAX}) {
            check.sentence(44, "party: 0 or 1");
            refused(DistrictEdgeTest::busy, "districtsWon(1, " + party + ")", ARGUMENT, hall -> hall.districtsWon(1, party));
            check.sentence(45, "party: 0 or 1");
            refused(DistrictEdgeTest::busy, "wasted(1, " + party + ")", ARGUMENT, hall -> hall.wasted(1, party));
        }
    }

    private static void atLeastOneWard() {
        check.sentence(0, "Districts are rows of neighboring wards, each of at least one ward; all wards belong to a district.");
        Ballothall hall = withHeads(1, 1, 1, 100);
        check.same("the small ones are one district, or two", ends(hall, 2) + ", " + ends(hall, 3), "2 3, 0 2 3");
        check.same("each alone", ends(hall, 4), "0 1 2 3");
        Ballothall front = withHeads(100, 1, 1, 1);
        check.same("the first one alone", ends(front, 2) + ", " + ends(front, 3), "0 3, 0 1 3");
        for (int districts = 1; districts <= 16; districts++) {
            int[] sizes = new int[16];
            Ballothall even = withHeads(3, 3, 3, 3, 3, 3, 3, 3, 3, 3, 3, 3, 3, 3, 3, 3);
            check.same("16 equal ones", even.greatestDistrict(districts), 3 * ((15 + districts) / districts));
            for (int i = 0; i < districts; i++) {
                sizes[i] = even.districtEnd(districts, i) - (i == 0 ? -1 : even.districtEnd(districts, i - 1));
                check.same("a district has a ward", sizes[i] > 0, true);
            }
        }
    }

    private static void greatestAsSmallAsPossible() {
        check.sentence(42, "Wards are divided into k districts so that the greatest number of heads of a district is as small as "
            + "possible");
        check.same("10 and 10", withHeads(5, 5, 10).greatestDistrict(2), 10);
        check.same("11 and 10", withHeads(5, 6, 10).greatestDistrict(2), 11);
        check.same("a single great one", withHeads(1, MOST, 1).greatestDistrict(2), MOST + 1);
        check.same("alone", withHeads(1, MOST, 1).greatestDistrict(3), MOST);
        Ballothall greatest = withHeads(MOST, MOST, MOST, MOST, MOST, MOST, MOST, MOST, MOST, MOST, MOST, MOST, MOST, MOST,
            MOST, MOST);
        check.same("1600000", greatest.greatestDistrict(1) + " " + greatest.greatestDistrict(16), "1600000 100000");
        check.sentence(43, "of several ways the one is taken whose row of last wards is the smallest in lexicographic order");
        check.same("a great one behind", ends(withHeads(1, 1, 1, 1, 1, 9), 3), "0 4 5");
        check.same("a great one ahead", ends(withHeads(9, 1, 1, 1, 1, 1), 3), "0 1 5");
        check.same("a great one between", ends(withHeads(1, 1, 9, 1, 1), 4), "0 1 2 4");
        check.same("equal ones", ends(withHeads(1, 1, 1, 1, 1), 2) + ", " + ends(withHeads(1, 1, 1, 1, 1), 3), "1 4, 0 2 4");
    }

    private static void equalVotes() {
        check.sentence(44, "A party wins a district if it has more votes there than the other one.");
        check.same("one more", Houses.withWards(new int[] {1, 6, 5}).districtsWon(1, 0), 1);
        check.same("as many", Houses.withWards(new int[] {1, 5, 5}).districtsWon(1, 0), 0);
        check.same("as many, the other party", Houses.withWards(new int[] {1, 5, 5}).districtsWon(1, 1), 0);
        check.same("one less", Houses.withWards(new int[] {1, 4, 5}).districtsWon(1, 0), 0);
        check.same("no votes", Houses.withWards(new int[] {1, 0, 0}).districtsWon(1, 0), 0);
        check.same("a single vote", Houses.withWards(new int[] {1, 0, 1}).districtsWon(1, 1), 1);
        int[][] all = new int[16][];
        for (int i = 0; i < 16; i++) {
            all[i] = new int[] {1, MOST, MOST - 1};
        }
        check.same("all of sixteen", Houses.withWards(all).districtsWon(16, 0), 16);
        check.same("none of sixteen", Houses.withWards(all).districtsWon(16, 1), 0);
        check.sentence(45, "Its wasted votes in a district are all its votes if it does not win it");
        check.same("equal votes", Houses.withWards(new int[] {1, 5, 5}).wasted(1, 0), 5);
        check.same("equal votes, the other party", Houses.withWards(new int[] {1, 5, 5}).wasted(1, 1), 5);
        check.same("lost", Houses.withWards(new int[] {1, 4, 5}).wasted(1, 0), 4);
        check.same("all of sixteen", Houses.withWards(all).wasted(16, 1), 16 * (MOST - 1));
        check.sentence(45, "otherwise its votes less half of the votes of both parties together (rounded down) less 1");
        check.same("6 to 5", Houses.withWards(new int[] {1, 6, 5}).wasted(1, 0), 0);
        check.same("7 to 5", Houses.withWards(new int[] {1, 7, 5}).wasted(1, 0), 0);
        check.same("8 to 5", Houses.withWards(new int[] {1, 8, 5}).wasted(1, 0), 1);
        check.same("1 to 0", Houses.withWards(new int[] {1, 1, 0}).wasted(1, 0), 0);
        check.same("2 to 0", Houses.withWards(new int[] {1, 2, 0}).wasted(1, 0), 0);
        check.same("3 to 0", Houses.withWards(new int[] {1, 3, 0}).wasted(1, 0), 1);
        check.same("0 to 100000", Houses.withWards(new int[] {1, 0, MOST}).wasted(1, 1), MOST / 2 - 1);
        check.same("sixteen together", Houses.withWards(all).wasted(1, 0), 16 * MOST - (16 * MOST - 8) - 1);
    }

    // ---- promises 46 and 47

    private static void twelveMembers() {
        check.sentence(46, "Throws IllegalStateException if there are 12");
        Ballothall hall = new Ballothall();
        for (int i = 0; i < 12; i++) {
            check.same("member()", hall.member(i), i);
        }
        refused(DistrictEdgeTest::full, "a 13th", STATE, house -> house.member(0));
        refused(DistrictEdgeTest::full, "a 13th with a wrong weight", ARGUMENT, house -> house.member(-1));
        refused(DistrictEdgeTest::full, "a 13th with too much weight", ARGUMENT, house -> house.member(1001));
        hall.undo();
        check.same("the twelfth again", hall.member(5), 11);
        check.sentence(46, "weight: 0 to 1000");
        check.same("the least", Houses.withMembers(1, 0).swings(0), 0);
        check.same("the greatest", Houses.withMembers(1000, 1000).swings(0), 1);
        for (int weight : new int[] {-1, 1001, MIN, MAX}) {
            refused(DistrictEdgeTest::busy, "member(" + weight + ")", ARGUMENT, house -> house.member(weight));
        }
    }

    private static void quotas() {
        check.sentence(47, "quota: 1 to 12000");
        Ballothall hall = busy();
        check.same("the greatest", hall.setQuota(12000), 5);
        check.same("the least", hall.setQuota(1), 12000);
        check.same("the one before", hall.setQuota(1), 1);
        for (int quota : new int[] {0, -1, 12001, MIN, MAX}) {
            refused(DistrictEdgeTest::busy, "setQuota(" + quota + ")", ARGUMENT, house -> house.setQuota(quota));
        }
        check.sentence(47, "it is 1 at first");
        check.same("setQuota(9)", new Ballothall().setQuota(9), 1);
        hall.undo();
        check.same("after undo", hall.setQuota(2), 1);
    }

    // ---- promises 48 and 49

    private static void numbersOfMembers() {
        for (int member : new int[] {-1, 3, 12, MIN, MAX}) {
            check.sentence(48, "Throws IndexOutOfBoundsException see section 1");
            refused(DistrictEdgeTest::busy, "swings(" + member + ")", INDEX, hall -> hall.swings(member));
            check.sentence(49, "Throws IndexOutOfBoundsException see section 1");
            refused(DistrictEdgeTest::busy, "ordersTurned(" + member + ")", INDEX, hall -> hall.ordersTurned(member));
        }
        refused(DistrictEdgeTest::full, "swings(12)", INDEX, hall -> hall.swings(12));
        refused(DistrictEdgeTest::full, "ordersTurned(12)", INDEX, hall -> hall.ordersTurned(12));
        check.same("the last one of twelve", full().swings(11) + " " + full().ordersTurned(11), "0 0");
        Ballothall undone = Houses.withMembers(1, 1, 1);
        undone.undo();
        check.same("one that was undone", Check.orThrown(() -> undone.swings(1)), "IndexOutOfBoundsException");
    }

    private static void notLessThanQuota() {
        check.sentence(48, "A set of members is winning if its weights together are not less than the quota.");
        check.same("just the quota", Houses.withMembers(5, 5).swings(0), 1);
        check.same("one less", Houses.withMembers(6, 5).swings(0), 0);
        check.same("three together", Houses.withMembers(9, 4, 3, 2).swings(2), 1);
        check.same("one too few", Houses.withMembers(10, 4, 3, 2).swings(2), 0);
        check.sentence(48, "A member swings a set without them if the set is not winning, but with the member it is.");
        check.same("a winning set", Houses.withMembers(5, 5, 5).swings(0), 1);
        check.same("a member without weight", Houses.withMembers(5, 5, 0).swings(1) + " "
            + Houses.withMembers(5, 5, 0).ordersTurned(1), "0 0");
        check.same("with or without it", Houses.withMembers(5, 5, 0).swings(0), 2);
        check.same("alone, the empty set", Houses.withMembers(1, 1).swings(0) + " "
            + Houses.withMembers(1, 1).ordersTurned(0), "1 1");
        check.same("no quota is as small as 0", Houses.withMembers(1, 0, 0).swings(0), 0);
    }

    private static void manyOrders() {
        check.sentence(49, "In an order of all members, the member that swings the set of those ahead of them turns the order.");
        int[] ones = {1, 1, 1, 1, 1, 1, 1, 1, 1, 1, 1, 1};
        int[] sets = {1, 11, 55, 165, 330, 462, 462, 330, 165, 55, 11, 1};
        for (int quota = 1; quota <= 12; quota++) {
            Ballothall hall = Houses.withMembers(quota, ones);
            check.same("sets of " + (quota - 1), hall.swings(0) + " " + hall.swings(11), sets[quota - 1] + " "
                + sets[quota - 1]);
            check.same("a twelfth of all orders", hall.ordersTurned(0) + " " + hall.ordersTurned(11), "39916800 39916800");
        }
        check.same("the quota 13", Houses.withMembers(13, ones).ordersTurned(0), 0);
        Ballothall one = Houses.withMembers(1, 0, 0, 0, 0, 0, 0, 0, 0, 0, 0, 0, 1000);
        check.same("all orders, all sets", one.ordersTurned(11) + " " + one.swings(11), "479001600 2048");
        check.same("none", one.ordersTurned(0) + " " + one.swings(0), "0 0");
        int[] greatest = {1000, 1000, 1000, 1000, 1000, 1000, 1000, 1000, 1000, 1000, 1000, 1000};
        check.same("all are needed", Houses.withMembers(12000, greatest).ordersTurned(3), 39916800);
        check.same("not all are needed", Houses.withMembers(11000, greatest).swings(3), 11);
        check.same("11001 are all twelve", Houses.withMembers(11001, greatest).swings(3), 1);
    }

    public static void main(String[] arguments) {
        sixteenWards();
        rangesOfWards();
        numbersOfDistricts();
        placesOfDistricts();
        parties();
        atLeastOneWard();
        greatestAsSmallAsPossible();
        equalVotes();
        twelveMembers();
        quotas();
        numbersOfMembers();
        notLessThanQuota();
        manyOrders();
        check.end();
    }
}
