/** What the tests share: they tell each call whose answer is not due, and end with 1 if there was one. */
final class Check {
    interface Call {
        Object answer();
    }

    private final String name;
    private int promise;
    private int checked;
    private int wrong;

    Check(String itsName) {
        name = itsName;
    }

    /** What follows looks at this promise of the document. */
    void promise(int number) {
        promise = number;
    }

    void same(String what, Object got, Object due) {
        checked++;
        if (!String.valueOf(got).equals(String.valueOf(due))) {
            wrong++;
            System.out.println(name + ", promise " + promise + ": " + what + " answered " + got + ", due is " + due);
        }
    }

    /** The call throws exactly this, and everything that can be asked answers the same before and after. */
    void refused(Ballothall hall, String what, Class<? extends RuntimeException> due, Call call) {
        String before = stateOf(hall);
        String got = "nothing";
        try {
            call.answer();
        } catch (RuntimeException e) {
            got = e.getClass().getSimpleName();
        }
        same(what + " throws", got, due.getSimpleName());
        same("the state after " + what, stateOf(hall), before);
    }

    void end() {
        System.out.println(name + ": " + checked + " checks, " + wrong + " wrong");
        if (wrong > 0) {
            System.exit(1);
        }
    }

    static Ballothall withCandidates(int count) {
        Ballothall hall = new Ballothall();
        for (int i = 0; i < count; i++) {
            hall.candidate();
        }
        return hall;
    }

    static void type(Ballothall hall, String text) {
        for (int i = 0; i < text.length(); i++) {
            hall.type(text.charAt(i));
        }
    }

    static int cast(Ballothall hall, String ballot, int count) {
        type(hall, ballot);
        return hall.ballots(count);
    }

    static String output(Ballothall hall) {
        StringBuilder output = new StringBuilder();
        for (int i = 0; hall.outputByte(i) != Ballothall.NONE; i++) {
            output.append((char) hall.outputByte(i));
        }
        return output.toString();
    }

    static String pile(Ballothall hall, int step, int candidate) {
        hall.writePile(step, candidate);
        return output(hall);
    }

    private static String orThrown(Call call) {
        try {
            return String.valueOf(call.answer());
        } catch (RuntimeException e) {
            return e.getClass().getSimpleName();
        }
    }

    /** All that the getters tell: nothing of it changes the house. */
    static String stateOf(Ballothall hall) {
        StringBuilder state = new StringBuilder();
        state.append(hall.type(0)).append(' ').append(hall.allBallots()).append(' ').append(hall.quota())
            .append(' ').append(hall.steps()).append(' ').append(hall.checksum()).append(' ').append(output(hall))
            .append(' ').append(hall.pathWinners()).append(' ').append(hall.beatingSet())
            .append(' ').append(hall.consensusDistance()).append(' ').append(hall.safeAfter());
        for (int i = 0; i < 31; i++) {
            int at = i;
            state.append('\n').append(i).append(' ').append(orThrown(() -> hall.countOf(at)));
            for (int j = 0; j < 8; j++) {
                int candidate = j;
                state.append(' ').append(orThrown(() -> hall.kindAt(at, candidate, true)));
                state.append(orThrown(() -> hall.kindAt(at, candidate, false)));
            }
        }
        for (int i = 0; i < 60; i++) {
            int at = i;
            state.append('\n').append(i).append(' ').append(orThrown(() -> hall.seatsOf(at)))
                .append(' ').append(orThrown(() -> hall.seatAt(at)))
                .append(' ').append(orThrown(() -> hall.seatShare(at)))
                .append(' ').append(orThrown(() -> hall.meanRank(at)))
                .append(' ').append(orThrown(() -> hall.electedAt(at)))
                .append(' ').append(orThrown(() -> hall.excludedAt(at)))
                .append(' ').append(orThrown(() -> hall.winner(at)))
                .append(' ').append(orThrown(() -> hall.runoffOut(at)))
                .append(' ').append(orThrown(() -> hall.proportionalAt(at)))
                .append(' ').append(orThrown(() -> hall.greatestDistrict(at)))
                .append(' ').append(orThrown(() -> hall.wasted(at, 0)))
                .append(' ').append(orThrown(() -> hall.wasted(at, 1)))
                .append(' ').append(orThrown(() -> hall.swings(at)))
                .append(' ').append(orThrown(() -> hall.ordersTurned(at)));
        }
        return state.toString();
    }
}
