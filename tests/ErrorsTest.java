import java.lang.reflect.Field;

/**
 * Promise 54, errors(): it always answers 0, so that only a house whose kept results are spoiled from outside can show
 * that it looks at them. What the program keeps is reached by reflection, as the state is free.
 */
public final class ErrorsTest {
    private static final int LIMBS = 13;
    private static final int NUMBERS_OF_MOMENT = 10;
    private static final Check check = new Check("ErrorsTest");

    private static Object get(Object owner, String name) throws ReflectiveOperationException {
        Field field = owner.getClass().getDeclaredField(name);
        field.setAccessible(true);
        return field.get(owner);
    }

    private static Object latest(Object owner) throws ReflectiveOperationException {
        return ((Object[]) get(owner, "kept"))[(int) get(owner, "newest")];
    }

    private static int[] seatsOf(Ballothall hall) throws ReflectiveOperationException {
        return (int[]) get(latest(get(hall, "lists")), "got");
    }

    private static int[] ofCount(Ballothall hall, String name) throws ReflectiveOperationException {
        return (int[]) get(latest(get(hall, "counting")), name);
    }

    /** Makes a number of a moment of the latest count greater by one part, or smaller. */
    private static void spoil(Ballothall hall, int moment, int number, int by) throws ReflectiveOperationException {
        ofCount(hall, "limb")[(moment * NUMBERS_OF_MOMENT + number) * LIMBS] += by;
    }

    private static void seats() throws ReflectiveOperationException {
        check.sentence(54, "1 if some list has more votes and fewer seats than another one by the latest seats(), both having the "
            + "alliance 0 and the votes that they had then;");
        for (int more = 0; more < 3; more++) {
            for (int fewer = 0; fewer < 3; fewer++) {
                if (more != fewer) {
                    Ballothall hall = Houses.withLists(50, 50, 50);
                    hall.setVotes(more, 51);
                    hall.seats(0, 3, 0);
                    seatsOf(hall)[fewer] = 2;
                    check.same("as many votes, fewer seats", hall.errors(), 1);
                    seatsOf(hall)[more] = 2;
                    check.same("as many seats", hall.errors(), 0);
                    seatsOf(hall)[more] = 3;
                    check.same("more seats", hall.errors(), 0);
                }
            }
        }
        Ballothall hall = Houses.withLists(60, 40, 50);
        hall.seats(0, 15, 0);
        check.same("as it is", hall.errors(), 0);
        seatsOf(hall)[1] = 9;
        check.same("two lists have more votes and fewer seats", hall.errors(), 1);
        hall.setVotes(2, 51);
        check.same("one of them and the votes that it had then", hall.errors(), 1);
        hall.setVotes(0, 61);
        check.same("other votes than then", hall.errors(), 0);
        hall.setVotes(0, 60);
        check.same("the same votes as then", hall.errors(), 1);
        hall.ally(0, 1);
        check.same("an alliance now", hall.errors(), 0);
        hall.ally(0, 0);
        hall.ally(1, 4);
        check.same("an alliance of the other one now", hall.errors(), 0);
        hall.ally(1, 0);
        check.same("no alliance again", hall.errors(), 1);
        hall.setVotes(1, 60);
        check.same("as many votes now", hall.errors(), 0);
        Ballothall allied = Houses.withLists(60, 40);
        allied.ally(0, 2);
        allied.seats(0, 10, 0);
        allied.ally(0, 0);
        seatsOf(allied)[1] = 9;
        check.same("an alliance then", allied.errors(), 0);
        allied.seats(0, 10, 0);
        seatsOf(allied)[1] = 9;
        check.same("no alliance then", allied.errors(), 1);
        allied.seats(0, 10, 0);
        allied.list(100);
        check.same("a list that came later has more votes and no seats", allied.errors(), 0);
    }

    private static Ballothall counted() {
        Ballothall hall = Houses.withBallots(4, "A>B", 6, "A>C", 3, "B", 3, "C", 4, "D>C", 3, "", 1);
        hall.transferable(2);
        return hall;
    }

    private static void piles() throws ReflectiveOperationException {
        check.sentence(54, "the steps of the latest count after which piles and what is exhausted are not together the number of "
            + "ballots of that count;");
        for (int number = 0; number < NUMBERS_OF_MOMENT; number++) {
            Ballothall hall = counted();
            for (int step = 1; step <= 3; step++) {
                spoil(hall, step, number, 1);
                check.same("one part too much after " + step + " steps", hall.errors(), step);
            }
            spoil(hall, 2, number, -1);
            check.same("two steps are left", hall.errors(), 2);
            check.same("the same ballots counted again", hall.transferable(2) + " " + hall.errors(), "2 0");
            spoil(hall, 0, number, 1);
            check.same("ahead of the first step", hall.errors(), 0);
            hall.undo();
            check.same("the count before", hall.errors(), 2);
        }
    }

    private static void sets() throws ReflectiveOperationException {
        check.sentence(54, "the sets of candidates of that count with more whole quotas (of the ballots of that count) than elected "
            + "members, but not all of them elected;");
        Ballothall hall = Houses.withBallots(3, "A>B", 10, "C", 1);
        hall.transferable(1);
        int[] elected = ofCount(hall, "elected");
        check.same("A is elected", elected[0] + " " + hall.errors(), "0 0");
        elected[0] = 2;
        check.same("A has a quota, and A and B have one", hall.errors(), 2);
        hall.takeBack(0, 9);
        check.same("of the ballots of that count", hall.errors(), 2);
        hall.candidate();
        check.same("of the candidates of that count", hall.errors(), 2);
        elected[0] = 1;
        check.same("A has a quota, A and B have one elected", hall.errors(), 1);
        Ballothall two = Houses.withBallots(4, "A=B>C", 20, "D", 9);
        two.transferable(2);
        check.same("A and B are elected with twice the quota", two.quota() + " " + two.errors(), "10 0");
        ofCount(two, "elected")[1] = 2;
        check.same("not all of A and B, though of A, B and C there are two", two.errors(), 1);
        ofCount(two, "elected")[0] = 3;
        check.same("none of A and B, one of A, B and C, and all of all", two.errors(), 2);
        Ballothall three = Houses.withBallots(2, "A", 9, "B", 1);
        three.transferable(1);
        check.same("two quotas of one that is elected", three.quota() + " " + three.errors(), "6 0");
        three.takeBack(1, 1);
        Check.cast(three, "A", 6);
        three.transferable(3);
        check.same("many quotas of one that is elected", three.quota() + " " + three.errors(), "4 0");
        ofCount(three, "elected")[0] = 1;
        check.same("many quotas of A, and B twice", three.errors(), 2);
    }

    public static void main(String[] arguments) throws ReflectiveOperationException {
        seats();
        piles();
        sets();
        check.end();
    }
}
