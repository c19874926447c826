import java.util.HashSet;
import java.util.Set;
import java.util.function.Function;
import java.util.function.Supplier;

/**
 * What the tests share: they tell each call whose answer is not due, and end with 1 if there was one.
 * No object is used for more than the 512 calls for which the document promises something.
 */
final class Check {
    interface Call {
        Object answer();
    }

    private final String name;
    private int promise;
    private String sentence = "";
    private final Set<String> sentences = new HashSet<>();
    private int checked;
    private int checkedAhead;
    private int wrong;

    Check(String itsName) {
        name = itsName;
    }

    /** What follows looks at this promise of the document. */
    void promise(int number) {
        promise = number;
    }

    /** What follows looks at this sentence, which the document has at this promise; 0 for its terms. */
    void sentence(int itsPromise, String words) {
        needChecks();
        promise = itsPromise;
        sentence = words;
        sentences.add(itsPromise + words);
        checkedAhead = checked;
    }

    /** A sentence that is quoted, but not looked at, is wrong as well. */
    private void needChecks() {
        if (!sentence.isEmpty() && checked == checkedAhead) {
            wrong++;
            System.out.println(name + ", promise " + promise + ", \"" + sentence + "\": there is no check of it");
        }
    }

    void same(String what, Object got, Object due) {
        checked++;
        if (!String.valueOf(got).equals(String.valueOf(due))) {
            wrong++;
            System.out.println(name + ", promise " + promise + (sentence.isEmpty() ? "" : ", \"" + sentence + "\"") + ": "
                + what + " answered " + got + ", due is " + due);
        }
    }

    /** The call throws exactly this, and the sums that can be asked are the same before and after. */
    void refused(Ballothall hall, String what, Class<? extends RuntimeException> due, Call call) {
        String before = sumsOf(hall);
        same(what + " throws", orThrown(call), due.getSimpleName());
        same("the sums after " + what, sumsOf(hall), before);
    }

    /**
     * The call throws exactly this, and nothing is different then: the house answers, undoes and reads its text
     * as another one does that was made in the same way and where the call was not done.
     */
    void refused(Supplier<Ballothall> maker, String what, Class<? extends RuntimeException> due,
            Function<Ballothall, Object> call) {
        Ballothall asked = maker.get();
        Ballothall undone = maker.get();
        Ballothall emptied = maker.get();
        for (Ballothall hall : new Ballothall[] {asked, undone, emptied}) {
            same(what + " throws", orThrown(() -> call.apply(hall)), due.getSimpleName());
        }
        same("the state after " + what, stateOf(asked), stateOf(maker.get()));
        same("what is undone after " + what, pastOf(undone), pastOf(maker.get()));
        same("the text, lots, alliances and quota after " + what, hiddenOf(emptied), hiddenOf(maker.get()));
    }

    void end() {
        needChecks();
        System.out.println(name + ": " + (sentences.isEmpty() ? "" : sentences.size() + " sentences, ") + checked + " checks, "
            + wrong + " wrong");
        if (wrong > 0) {
            System.exit(1);
        }
    }

    static Ballothall withCandidates(int count) {
        Ballothall hall = new Ballothall();
        for (int i = 0; i < count; i++) {
            hall.candidate();
        }
        return hall;
    }

    /** Types a text, eight bytes a call; answers the length then, 0 if there was nothing to type. */
    static int type(Ballothall hall, String text) {
        int length = 0;
        for (int at = 0; at < text.length(); at += 8) {
            long bytes = 0;
            for (int i = at; i < Math.min(at + 8, text.length()); i++) {
                bytes = bytes << 8 | text.charAt(i);
            }
            length = hall.type(bytes);
        }
        return length;
    }

    static int cast(Ballothall hall, String ballot, int count) {
        type(hall, ballot);
        return hall.ballots(count);
    }

    static String output(Ballothall hall) {
        StringBuilder output = new StringBuilder();
        for (int i = 0; hall.outputByte(i) != Ballothall.NONE; i++) {
            output.append((char) hall.outputByte(i));
        }
        return output.toString();
    }

    static String pile(Ballothall hall, int step, int candidate) {
        hall.writePile(step, candidate);
        return output(hall);
    }

    /** The answer, or the name of the exception. */
    static String orThrown(Call call) {
        try {
            return String.valueOf(call.answer());
        } catch (RuntimeException e) {
            return e.getClass().getSimpleName();
        }
    }

    /** A few answers that most changes change. */
    static String sumsOf(Ballothall hall) {
        return hall.type(0) + " " + hall.allBallots() + " " + hall.checksum() + " " + hall.steps() + " "
            + hall.outputByte(0);
    }

    /** What the getters tell, in some 200 calls: nothing of it changes the house. */
    static String stateOf(Ballothall hall) {
        StringBuilder state = new StringBuilder(sumsOf(hall));
        state.append(' ').append(hall.quota()).append(' ').append(hall.pathWinners()).append(' ')
            .append(hall.beatingSet()).append(' ').append(hall.consensusDistance()).append(' ')
            .append(hall.safeAfter()).append(' ').append(hall.lossAt(60)).append(' ').append(hall.errors());
        for (int i = 0; i < 9; i++) {
            int at = i;
            state.append('\n').append(orThrown(() -> hall.meanRank(at)))
                .append(' ').append(orThrown(() -> hall.votesFor(0, at)))
                .append(' ').append(orThrown(() -> hall.votesFor(3, at)))
                .append(' ').append(orThrown(() -> hall.votesFor(4, at)))
                .append(' ').append(orThrown(() -> hall.winner(at)))
                .append(' ').append(orThrown(() -> hall.electedAt(at)))
                .append(' ').append(orThrown(() -> hall.excludedAt(at)))
                .append(' ').append(orThrown(() -> hall.runoffOut(at)))
                .append(' ').append(orThrown(() -> hall.proportionalAt(at)))
                .append(' ').append(orThrown(() -> hall.seatsOf(at)))
                .append(' ').append(orThrown(() -> hall.seatShare(at)))
                .append(' ').append(orThrown(() -> hall.seatAt(at)))
                .append(' ').append(hall.outputByte(at));
        }
        for (int i = 0; i < 17; i++) {
            int at = i;
            state.append('\n').append(orThrown(() -> hall.greatestDistrict(at)))
                .append(' ').append(orThrown(() -> hall.swings(at)))
                .append(' ').append(orThrown(() -> hall.wasted(at, at % 2)));
        }
        return state.toString();
    }

    /** All changes undone one by one, with a few answers between. */
    static String pastOf(Ballothall hall) {
        StringBuilder past = new StringBuilder();
        int left = 0;
        for (int i = 0; i < 22 && left >= 0; i++) {
            left = hall.undo();
            past.append(left).append(' ').append(sumsOf(hall)).append(' ').append(hall.winner(3)).append(' ')
                .append(hall.safeAfter()).append(' ').append(orThrown(() -> hall.swings(0))).append(' ')
                .append(orThrown(() -> hall.wasted(1, 0))).append(' ').append(hall.lossAt(20)).append('\n');
        }
        return past.toString();
    }

    /** What can be asked only by changing it: the text, as a ballot, all lots and alliances, the council's quota. */
    static String hiddenOf(Ballothall hall) {
        StringBuilder hidden = new StringBuilder();
        String kind = orThrown(() -> hall.ballots(1));
        hidden.append(hall.type(0)).append(' ').append(kind);
        for (int i = 0; i < 8; i++) {
            int at = i;
            if (kind.length() < 3 && !kind.startsWith("-")) {
                hidden.append(' ').append(orThrown(() -> hall.kindAt(Integer.parseInt(kind), at, true)))
                    .append(orThrown(() -> hall.kindAt(Integer.parseInt(kind), at, false)));
            }
            hidden.append(' ').append(orThrown(() -> hall.setLot(false, at, 0)))
                .append(' ').append(orThrown(() -> hall.setLot(true, at, 0)))
                .append(' ').append(orThrown(() -> hall.ally(at, 0)));
        }
        return hidden.append(' ').append(hall.setQuota(1)).toString();
    }
}
