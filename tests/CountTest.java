import java.util.NoSuchElementException;

/** Promises 17 to 24: the transferable vote. */
public final class CountTest {
    private static final Class<IndexOutOfBoundsException> INDEX = IndexOutOfBoundsException.class;
    private static final Class<IllegalArgumentException> ARGUMENT = IllegalArgumentException.class;
    private static final Class<IllegalStateException> STATE = IllegalStateException.class;
    private static final Class<NoSuchElementException> ELEMENT = NoSuchElementException.class;
    private static final Check check = new Check("CountTest");

    private static String elected(Ballothall hall) {
        StringBuilder elected = new StringBuilder();
        for (int i = 0; i < 8; i++) {
            try {
                elected.append(hall.electedAt(i));
            } catch (NoSuchElementException e) {
                break;
            }
        }
        return elected.toString();
    }

    private static String excluded(Ballothall hall) {
        StringBuilder excluded = new StringBuilder();
        for (int i = 0; i < 8; i++) {
            try {
                excluded.append(hall.excludedAt(i));
            } catch (NoSuchElementException e) {
                break;
            }
        }
        return excluded.toString();
    }

    private static String piles(Ballothall hall, int step, int candidates) {
        StringBuilder piles = new StringBuilder();
        for (int c = 0; c < candidates; c++) {
            piles.append(Check.pile(hall, step, c)).append(' ');
        }
        return piles.append(Check.pile(hall, step, -1)).toString();
    }

    private static void withoutCount() {
        check.promise(17);
        Ballothall hall = new Ballothall();
        check.refused(hall, "transferable(0)", ARGUMENT, () -> hall.transferable(0));
        check.refused(hall, "transferable(1)", STATE, () -> hall.transferable(1));
        hall.candidate();
        for (int seats : new int[] {0, 4, -1, Integer.MAX_VALUE, Integer.MIN_VALUE}) {
            check.refused(hall, "transferable(" + seats + ")", ARGUMENT, () -> hall.transferable(seats));
        }
        check.promise(18);
        check.same("quota()", hall.quota(), -1);
        check.promise(19);
        check.refused(hall, "electedAt(0)", ELEMENT, () -> hall.electedAt(0));
        check.promise(20);
        check.refused(hall, "excludedAt(0)", ELEMENT, () -> hall.excludedAt(0));
        check.promise(21);
        check.same("steps()", hall.steps(), 0);
        check.promise(22);
        check.refused(hall, "writePile(0, 0)", ELEMENT, () -> hall.writePile(0, 0));
        check.refused(hall, "writePile(0, 1)", INDEX, () -> hall.writePile(0, 1));
        check.promise(24);
        check.refused(hall, "solidQuotas(1)", STATE, () -> hall.solidQuotas(1));
        check.refused(hall, "solidQuotas(2)", ARGUMENT, () -> hall.solidQuotas(2));
        check.refused(hall, "solidQuotas(0)", ARGUMENT, () -> hall.solidQuotas(0));
    }

    private static void surplus() {
        check.promise(17);
        // 9 ballots for 2 seats, quota 4: A has 6 and passes on 2 to B, who goes with them.
        Ballothall hall = Check.withCandidates(3);
        Check.cast(hall, "A>B", 6);
        Check.cast(hall, "C", 3);
        check.same("transferable(2)", hall.transferable(2), 2);
        check.promise(18);
        check.same("quota()", hall.quota(), 4);
        check.promise(19);
        check.same("the elected", elected(hall), "02");
        check.promise(20);
        check.same("the excluded", excluded(hall), "1");
        check.promise(21);
        check.same("steps()", hall.steps(), 3);
        check.promise(22);
        check.same("piles at first", piles(hall, 0, 3), "6 0 3 0");
        check.same("piles after A", piles(hall, 1, 3), "4 2 3 0");
        check.same("piles after B", piles(hall, 2, 3), "4 0 3 2");
        check.same("piles at last", piles(hall, 3, 3), "4 0 3 2");
        check.refused(hall, "a fourth step", ELEMENT, () -> hall.writePile(4, 0));
        check.refused(hall, "a step -1", ELEMENT, () -> hall.writePile(-1, 0));
        check.refused(hall, "a far step", ELEMENT, () -> hall.writePile(Integer.MAX_VALUE, -1));
        check.refused(hall, "no candidate", INDEX, () -> hall.writePile(0, 3));
        check.refused(hall, "no candidate and no step", INDEX, () -> hall.writePile(9, -2));
        check.promise(19);
        check.refused(hall, "electedAt(2)", ELEMENT, () -> hall.electedAt(2));
        check.refused(hall, "electedAt(-1)", ELEMENT, () -> hall.electedAt(-1));
        check.promise(20);
        check.refused(hall, "excludedAt(1)", ELEMENT, () -> hall.excludedAt(1));
        check.refused(hall, "excludedAt(-1)", ELEMENT, () -> hall.excludedAt(-1));
    }

    private static void fractions() {
        check.promise(22);
        // 7 ballots for 1 seat, quota 4: of A's 7, three sevenths are passed on.
        Ballothall hall = Check.withCandidates(3);
        Check.cast(hall, "A>B", 5);
        Check.cast(hall, "A>C", 2);
        check.same("transferable(1)", hall.transferable(1), 1);
        check.same("steps()", hall.steps(), 1);
        check.same("the length", hall.writePile(1, 1), 4);
        check.promise(23);
        String due = "15/7";
        for (int i = 0; i < 4; i++) {
            check.same("outputByte(" + i + ")", hall.outputByte(i), (int) due.charAt(i));
        }
        for (int i : new int[] {-1, 4, 239, 240, Integer.MAX_VALUE, Integer.MIN_VALUE}) {
            check.same("outputByte(" + i + ")", hall.outputByte(i), -1);
        }
        check.promise(22);
        check.same("piles", piles(hall, 1, 3), "4 15/7 6/7 0");
        check.same("the length of 0", hall.writePile(1, -1), 1);
        hall.candidate();
        check.same("a candidate that came later", Check.pile(hall, 1, 3), "0");

        // 1 ballot at three: a third each; when C goes, half a third to A and B; when B goes, all to A.
        Ballothall parts = Check.withCandidates(4);
        Check.cast(parts, "C=A=B>D", 1);
        Check.cast(parts, "D", 1);
        Check.cast(parts, "", 1);
        parts.transferable(1);
        check.same("quota()", parts.quota(), 2);
        check.same("a third each", piles(parts, 0, 4), "1/3 1/3 1/3 1 1");
        check.same("then a half each", piles(parts, 1, 4), "1/2 1/2 0 1 1");
        check.same("then one", piles(parts, 2, 4), "1 0 0 1 1");
        check.same("then the lot", piles(parts, 3, 4), "1 0 0 0 2");
        check.same("the excluded", excluded(parts), "213");
        check.same("the elected", elected(parts), "0");
    }

    private static void greatNumbers() {
        // Three surpluses, with 8 candidates and groups of several sizes.
        Ballothall hall = Check.withCandidates(8);
        String[] texts = {"A=B=C=D=E=F=G=H", "A>B=C=D=E=F=G", "B=A>C=D>E=F=H", "C=H=G>A=B>D=E=F", "A=C=E=G>B=D=F=H", "B>A=D=G"};
        int[] counts = {99991, 99989, 99971, 99961, 99929, 99923};
        for (int i = 0; i < texts.length; i++) {
            Check.cast(hall, texts[i], counts[i]);
        }
        check.same("transferable(3)", hall.transferable(3), 3);
        check.same("errors()", hall.errors(), 0);
        check.same("B at first", Check.pile(hall, 0, 1), "1299259/8");
        check.same("the elected keep the quota", Check.pile(hall, hall.steps(), hall.electedAt(0)), "" + hall.quota());
    }

    private static void ends() {
        check.promise(17);
        Ballothall none = Check.withCandidates(3);
        check.same("no ballots", none.transferable(1), 1);
        check.same("quota()", none.quota(), 1);
        check.same("excluded by lot", excluded(none), "21");
        check.same("elected", elected(none), "0");
        none.setLot(false, 0, 50);
        none.setLot(false, 1, 50);
        none.transferable(1);
        check.same("the greater lot goes, of equal ones the greater number", excluded(none), "10");
        check.same("more seats than candidates", none.transferable(3), 3);
        check.same("all are elected, by lot", elected(none), "201");
        check.same("nobody is excluded", excluded(none), "");
        Ballothall two = Check.withCandidates(2);
        Check.cast(two, "B>A", 5);
        Check.cast(two, "A", 1);
        check.same("two for three seats", two.transferable(3), 2);
        check.same("the greatest pile first", elected(two), "10");
        check.same("nothing is passed on", piles(two, 2, 2), "1 5 0");
        check.same("two for two seats", two.transferable(2), 2);
        check.same("as many as seats: nothing is passed on", piles(two, 1, 2), "1 5 0");
        check.same("one seat", two.transferable(1), 1);
        check.same("quota()", two.quota(), 4);
        check.same("the surplus is passed on though no seat is left", piles(two, 1, 2), "2 4 0");
        check.same("steps()", two.steps(), 1);

        Ballothall equal = Check.withCandidates(3);
        Check.cast(equal, "B>C", 4);
        Check.cast(equal, "A>C", 4);
        Check.cast(equal, "C", 3);
        check.same("quota of 11 ballots and 2 seats", equal.transferable(2) + " " + equal.quota(), "2 4");
        check.same("a pile that is just the quota", elected(equal), "01");
        check.same("passes nothing on", piles(equal, 1, 3), "4 4 3 0");
        equal.setLot(false, 1, 0);
        equal.setLot(false, 0, 1);
        equal.transferable(2);
        check.same("elected by lot", elected(equal), "10");
        Check.cast(equal, "C", 1);
        check.same("12 ballots", equal.transferable(2) + " " + equal.quota(), "2 5");
        check.same("excluded by lot", excluded(equal), "2");
    }

    private static void manyCounts() {
        check.promise(17);
        Ballothall hall = Check.withCandidates(3);
        for (int i = 0; i < 40; i++) {
            for (int c = 0; c < 3; c++) {
                hall.setLot(false, c, (c + i) % 3);
            }
            check.same("the count " + i, hall.transferable(1 + i % 2), 1 + i % 2);
            check.same("its first one", hall.electedAt(0), (3 - i % 3) % 3);
            check.same("its last one", hall.excludedAt(0), (5 - i % 3) % 3);
            check.same("how many are elected", elected(hall).length(), 1 + i % 2);
            check.same("how many are excluded", excluded(hall).length(), 2 - i % 2);
            check.same("its steps", hall.steps(), 3);
        }
        // 20 ballots, quota 7: B passes 3 on to C, who goes; then A's 4 go to D as a whole.
        Ballothall whole = Check.withCandidates(4);
        Check.cast(whole, "B>C", 10);
        Check.cast(whole, "A>D", 4);
        Check.cast(whole, "D", 6);
        check.same("transferable(2)", whole.transferable(2), 2);
        check.same("piles after B", piles(whole, 1, 4), "4 7 3 6 0");
        check.same("piles after C", piles(whole, 2, 4), "4 7 0 6 3");
        check.same("piles after A", piles(whole, 3, 4), "0 7 0 10 3");
        check.same("the elected", elected(whole), "13");
    }

    private static void lastGroup() {
        Ballothall hall = Check.withCandidates(3);
        Check.cast(hall, "A", 2);
        Check.cast(hall, "B", 3);
        Check.cast(hall, "C", 4);
        hall.transferable(1);
        check.same("quota()", hall.quota(), 5);
        check.same("the last group does not count", piles(hall, 1, 3), "0 3 4 2");
        check.same("the count ends", piles(hall, 3, 3), "0 0 4 5");
        Ballothall written = Check.withCandidates(2);
        Check.cast(written, "A>B", 2);
        Check.cast(written, "B", 2);
        written.candidate();
        Check.cast(written, "C", 3);
        written.setLot(false, 0, 50);
        written.transferable(1);
        check.same("a written group counts, though it is the last one written", piles(written, 1, 3), "0 4 3 0");
    }

    private static void keeping() {
        check.promise(18);
        Ballothall hall = Check.withCandidates(2);
        Check.cast(hall, "A", 8);
        hall.transferable(1);
        hall.takeBack(0, 8);
        hall.setLot(false, 0, 90);
        Check.cast(hall, "B", 3);
        check.same("kept", hall.quota() + elected(hall) + Check.pile(hall, 0, 0), "508");
        hall.transferable(1);
        check.same("the next one", hall.quota() + elected(hall) + Check.pile(hall, 0, 0), "210");
        check.promise(23);
        check.refused(hall, "the output stays", ELEMENT, () -> hall.writePile(7, 0));
        check.same("outputByte(0)", hall.outputByte(0), (int) '0');
    }

    private static void solid() {
        check.promise(24);
        Ballothall hall = Check.withCandidates(4);
        Check.cast(hall, "A=B>C", 10);
        Check.cast(hall, "B>A", 6);
        Check.cast(hall, "C", 3);
        Check.cast(hall, "", 1);
        hall.transferable(3);
        check.same("quota()", hall.quota(), 6);
        check.same("A and B", hall.solidQuotas(3), 2);
        check.same("A", hall.solidQuotas(1), 0);
        check.same("B", hall.solidQuotas(2), 1);
        check.same("C", hall.solidQuotas(4), 0);
        check.same("A, B and C", hall.solidQuotas(7), 1);
        check.same("D", hall.solidQuotas(8), 0);
        check.same("all", hall.solidQuotas(15), 3);
        Check.cast(hall, "C", 9);
        check.same("at most as many as there are", hall.solidQuotas(4), 1);
        check.same("the ballots as they are now", hall.solidQuotas(15), 4);
        hall.candidate();
        check.same("not all any more", hall.solidQuotas(15), 0);
        check.same("all", hall.solidQuotas(31), 4);
        Ballothall none = Check.withCandidates(2);
        none.transferable(1);
        check.same("no ballots, quota 1", none.solidQuotas(3), 0);
        Check.cast(none, "B", 1);
        check.same("one ballot, quota 1", none.solidQuotas(2), 1);
        for (int set : new int[] {0, -1, 32, Integer.MAX_VALUE, Integer.MIN_VALUE}) {
            check.refused(hall, "solidQuotas(" + set + ")", ARGUMENT, () -> hall.solidQuotas(set));
        }
    }

    public static void main(String[] arguments) {
        withoutCount();
        surplus();
        fractions();
        greatNumbers();
        ends();
        manyCounts();
        lastGroup();
        keeping();
        solid();
        check.end();
    }
}
