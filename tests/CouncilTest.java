/** Promises 46 to 49: the power of council members. */
public final class CouncilTest {
    private static final Class<IndexOutOfBoundsException> INDEX = IndexOutOfBoundsException.class;
    private static final Class<IllegalArgumentException> ARGUMENT = IllegalArgumentException.class;
    private static final Class<IllegalStateException> STATE = IllegalStateException.class;
    private static final Check check = new Check("CouncilTest");

    private static Ballothall council(int quota, int... weights) {
        Ballothall hall = new Ballothall();
        hall.setQuota(quota);
        for (int weight : weights) {
            hall.member(weight);
        }
        return hall;
    }

    private static String power(Ballothall hall, int members) {
        StringBuilder power = new StringBuilder();
        for (int i = 0; i < members; i++) {
            power.append(hall.swings(i)).append(':').append(hall.ordersTurned(i)).append(' ');
        }
        return power.toString();
    }

    private static void members() {
        check.promise(46);
        Ballothall hall = new Ballothall();
        for (int wrong : new int[] {-1, 1001, Integer.MAX_VALUE, Integer.MIN_VALUE}) {
            check.refused(hall, "member(" + wrong + ")", ARGUMENT, () -> hall.member(wrong));
        }
        for (int i = 0; i < 12; i++) {
            check.same("member()", hall.member(i % 2 == 0 ? 0 : 1000), i);
        }
        check.refused(hall, "a 13th member", STATE, () -> hall.member(1));
        check.refused(hall, "a 13th member that is wrong", ARGUMENT, () -> hall.member(1001));

        check.promise(47);
        check.same("the first quota", hall.setQuota(12000), 1);
        check.same("the greatest quota", hall.setQuota(1), 12000);
        check.same("the smallest quota", hall.setQuota(1), 1);
        for (int wrong : new int[] {0, -1, 12001, Integer.MAX_VALUE, Integer.MIN_VALUE}) {
            check.refused(hall, "setQuota(" + wrong + ")", ARGUMENT, () -> hall.setQuota(wrong));
        }
    }

    private static void power() {
        check.promise(48);
        Ballothall hall = council(6, 4, 3, 2, 1);
        check.same("swings(0)", hall.swings(0), 5);
        check.same("swings(1)", hall.swings(1), 3);
        check.same("swings(2)", hall.swings(2), 3);
        check.same("swings(3)", hall.swings(3), 1);
        check.promise(49);
        check.same("orders turned", power(hall, 4), "5:10 3:6 3:6 1:2 ");
        hall.setQuota(10);
        check.same("all are needed", power(hall, 4), "1:6 1:6 1:6 1:6 ");
        hall.setQuota(11);
        check.same("all are not enough", power(hall, 4), "0:0 0:0 0:0 0:0 ");
        hall.setQuota(1);
        check.same("each is enough", power(hall, 4), "1:6 1:6 1:6 1:6 ");
        check.same("orders before anything else is asked", council(6, 4, 3, 2, 1).ordersTurned(0), 10);
        check.same("a member without weight", power(council(1, 0, 5), 2), "0:0 2:2 ");
        check.same("a dictator", power(council(3, 1, 3, 1), 3), "0:0 4:6 0:0 ");
        check.same("a single one", power(council(5, 5), 1), "1:1 ");
        Ballothall large = council(6000, 1000, 1000, 1000, 1000, 1000, 1000, 1000, 1000, 1000, 1000, 1000, 1000);
        check.same("swings of twelve", large.swings(11), 462);
        check.same("orders of twelve", large.ordersTurned(11), 39916800L);
        large.setQuota(12000);
        check.same("all twelve", large.swings(0) + " " + large.ordersTurned(0), "1 39916800");
        Ballothall one = council(1, 1000, 0, 0, 0, 0, 0, 0, 0, 0, 0, 0, 0);
        check.same("all orders of twelve", one.swings(0) + " " + one.ordersTurned(0), "2048 479001600");
        for (int member : new int[] {-1, 4, 12, Integer.MAX_VALUE, Integer.MIN_VALUE}) {
            check.promise(48);
            check.refused(hall, "swings(" + member + ")", INDEX, () -> hall.swings(member));
            check.promise(49);
            check.refused(hall, "ordersTurned(" + member + ")", INDEX, () -> hall.ordersTurned(member));
        }
    }

    public static void main(String[] arguments) {
        members();
        power();
        check.end();
    }
}
