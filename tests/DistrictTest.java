import java.util.NoSuchElementException;

/** Promises 41 to 45: wards and districts. */
public final class DistrictTest {
    private static final Class<IllegalArgumentException> ARGUMENT = IllegalArgumentException.class;
    private static final Class<IllegalStateException> STATE = IllegalStateException.class;
    private static final Class<NoSuchElementException> ELEMENT = NoSuchElementException.class;
    private static final int[] WRONG = {0, -1, 6, 17, Integer.MAX_VALUE, Integer.MIN_VALUE};
    private static final Check check = new Check("DistrictTest");

    private static Ballothall five() {
        Ballothall hall = new Ballothall();
        int[][] wards = {{10, 5, 4}, {20, 3, 9}, {15, 8, 8}, {5, 2, 1}, {25, 0, 7}};
        for (int i = 0; i < wards.length; i++) {
            check.same("ward()", hall.ward(wards[i][0], wards[i][1], wards[i][2]), i);
        }
        return hall;
    }

    private static String ends(Ballothall hall, int districts) {
        StringBuilder ends = new StringBuilder();
        for (int i = 0; i < districts; i++) {
            ends.append(i == 0 ? "" : " ").append(hall.districtEnd(districts, i));
        }
        return ends.toString();
    }

    private static void wards() {
        check.promise(41);
        Ballothall hall = new Ballothall();
        for (int wrong : new int[] {-1, 100001, Integer.MAX_VALUE, Integer.MIN_VALUE}) {
            check.refused(hall, "heads " + wrong, ARGUMENT, () -> hall.ward(wrong, 0, 0));
            check.refused(hall, "votesA " + wrong, ARGUMENT, () -> hall.ward(1, wrong, 0));
            check.refused(hall, "votesB " + wrong, ARGUMENT, () -> hall.ward(1, 0, wrong));
        }
        check.refused(hall, "heads 0", ARGUMENT, () -> hall.ward(0, 0, 0));
        for (int i = 0; i < 16; i++) {
            check.same("ward()", i % 2 == 0 ? hall.ward(1, 0, 100000) : hall.ward(100000, 100000, 0), i);
        }
        check.refused(hall, "a 17th ward", STATE, () -> hall.ward(1, 0, 0));
        check.refused(hall, "a 17th ward that is wrong", ARGUMENT, () -> hall.ward(0, 0, 0));
        check.same("all heads", hall.greatestDistrict(1), 800008);
        check.same("16 districts", hall.greatestDistrict(16), 100000);
        check.same("with equal votes all are wasted", hall.wasted(1, 0), 800000);
    }

    private static void dividing() {
        Ballothall hall = five();
        check.promise(42);
        int[] greatest = {75, 45, 30, 25, 25};
        String[] ends = {"4", "1 4", "1 2 4", "0 1 3 4", "0 1 2 3 4"};
        for (int districts = 1; districts <= 5; districts++) {
            check.promise(42);
            check.same("greatestDistrict(" + districts + ")", hall.greatestDistrict(districts), greatest[districts - 1]);
            check.promise(43);
            check.same("ends of " + districts, ends(hall, districts), ends[districts - 1]);
        }
        for (int wrong : WRONG) {
            check.promise(42);
            check.refused(hall, "greatestDistrict(" + wrong + ")", ARGUMENT, () -> hall.greatestDistrict(wrong));
            check.promise(43);
            check.refused(hall, "districtEnd(" + wrong + ", -1)", ARGUMENT, () -> hall.districtEnd(wrong, -1));
        }
        for (int index : new int[] {-1, 3, 16, Integer.MAX_VALUE, Integer.MIN_VALUE}) {
            check.refused(hall, "districtEnd(3, " + index + ")", ELEMENT, () -> hall.districtEnd(3, index));
        }
        Ballothall even = new Ballothall();
        for (int i = 0; i < 6; i++) {
            even.ward(i == 5 ? 30 : 10, 0, 0);
        }
        check.promise(43);
        // 30 is needed for the last ward: 1 + 1 + 3, then 1, then 0 as small as possible at the front.
        check.same("the smallest row of last wards", ends(even, 4), "0 1 4 5");
        check.same("three of them", ends(even, 3), "1 4 5");
        check.same("five of them", ends(even, 5), "0 1 2 4 5");
        Ballothall none = new Ballothall();
        check.refused(none, "no wards", ARGUMENT, () -> none.greatestDistrict(1));
        check.refused(none, "no wards", ARGUMENT, () -> none.districtEnd(1, 0));
        check.refused(none, "no wards", ARGUMENT, () -> none.districtsWon(1, 0));
        check.refused(none, "no wards", ARGUMENT, () -> none.wasted(1, 0));
    }

    private static void winning() {
        Ballothall hall = five();
        // Three districts: 8 to 13, 8 to 8, 2 to 8.
        check.promise(44);
        check.same("districtsWon(3, 0)", hall.districtsWon(3, 0), 0);
        check.same("districtsWon(3, 1)", hall.districtsWon(3, 1), 2);
        check.same("districtsWon(5, 0)", hall.districtsWon(5, 0), 2);
        check.same("districtsWon(5, 1)", hall.districtsWon(5, 1), 2);
        check.same("districtsWon(1, 0)", hall.districtsWon(1, 0), 0);
        check.same("districtsWon(1, 1)", hall.districtsWon(1, 1), 1);
        Ballothall row = new Ballothall();
        for (int i = 0; i < 16; i++) {
            row.ward(1, 9, 5 * (i % 3));
        }
        check.same("all wards, A", row.districtsWon(16, 0), 11);
        check.same("all wards, B", row.districtsWon(16, 1), 5);
        check.same("fewer districts afterwards", row.districtsWon(1, 0) + row.districtsWon(1, 1), 1);
        check.promise(45);
        check.same("all wards, A", row.wasted(16, 0), 6 * 4 + 5 * 1 + 5 * 9);
        check.same("one district", row.wasted(1, 1), 75);
        check.same("wasted(3, 0)", hall.wasted(3, 0), 8 + 8 + 2);
        check.same("wasted(3, 1)", hall.wasted(3, 1), 13 - 10 - 1 + 8 + 8 - 5 - 1);
        check.same("wasted(5, 0)", hall.wasted(5, 0), 5 - 4 - 1 + 3 + 8 + 2 - 1 - 1 + 0);
        check.same("wasted(5, 1)", hall.wasted(5, 1), 4 + 9 - 6 - 1 + 8 + 1 + 7 - 3 - 1);
        for (int wrong : WRONG) {
            check.promise(44);
            check.refused(hall, "districtsWon(" + wrong + ", 1)", ARGUMENT, () -> hall.districtsWon(wrong, 1));
            check.promise(45);
            check.refused(hall, "wasted(" + wrong + ", 0)", ARGUMENT, () -> hall.wasted(wrong, 0));
        }
        for (int party : new int[] {-1, 2, Integer.MAX_VALUE, Integer.MIN_VALUE}) {
            check.promise(44);
            check.refused(hall, "districtsWon(3, " + party + ")", ARGUMENT, () -> hall.districtsWon(3, party));
            check.promise(45);
            check.refused(hall, "wasted(3, " + party + ")", ARGUMENT, () -> hall.wasted(3, party));
        }
    }

    public static void main(String[] arguments) {
        wards();
        dividing();
        winning();
        check.end();
    }
}
