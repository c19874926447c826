import java.lang.reflect.InvocationTargetException;
import java.lang.reflect.Method;
import java.util.ArrayList;
import java.util.List;
import java.util.Random;

/** Long runs of chosen-by-lot calls on the program and on the model, which must answer the same. */
public final class ModelTest {
    private static final String[] CHANGES = {
        "candidate", "setLot", "ballots", "takeBack", "list", "setVotes", "ally", "seats", "transferable", "ward",
        "member", "setQuota", "undo", "undo"
    };
    private static final int[] EDGES = {
        Integer.MIN_VALUE, -1001, -1000, -2, -1, 0, 1, 2, 3, 4, 5, 6, 7, 8, 9, 15, 16, 20, 21, 30, 60, 61, 99, 100,
        1000, 1001, 12000, 12001, 100000, 100001, 1000000, 10000000, 10000001, Integer.MAX_VALUE
    };

    private final Random random;
    private Ballothall hall = new Ballothall();
    private final Model model = new Model();
    private final List<String> log = new ArrayList<>();
    // The document promises something for so many calls.
    private int callsLeft = 512;
    private final int ballotSize;

    private ModelTest(long seed) {
        random = new Random(seed);
        int[] sizes = {3, 12, 60, 1000, 100000};
        ballotSize = sizes[random.nextInt(sizes.length)];
    }

    private static String answer(Method method, Object target, Object[] arguments) {
        try {
            return String.valueOf(method.invoke(target, arguments));
        } catch (InvocationTargetException e) {
            return e.getCause().getClass().getSimpleName();
        } catch (IllegalAccessException e) {
            throw new AssertionError(e);
        }
    }

    private static Method method(Class<?> of, String name) {
        for (Method m : of.getDeclaredMethods()) {
            if (m.getName().equals(name) && java.lang.reflect.Modifier.isPublic(m.getModifiers())) {
                return m;
            }
        }
        throw new AssertionError("no method " + name);
    }

    private boolean agree(String name, Object... arguments) {
        if (callsLeft == 0) {
            return true;
        }
        callsLeft--;
        Method own = method(Ballothall.class, name);
        Method due = method(Model.class, name);
        String got = answer(own, hall, arguments);
        String want = answer(due, model, arguments);
        StringBuilder call = new StringBuilder(name).append('(');
        for (Object a : arguments) {
            call.append(a).append(' ');
        }
        log.add(call + ") " + got);
        if (!got.equals(want)) {
            System.out.println(log);
            System.out.println(call + ") answered " + got + ", due is " + want);
            return false;
        }
        return true;
    }

    private int upTo(int most) {
        return random.nextInt(most + 1);
    }

    private String ballot() {
        int n = 1 + random.nextInt(8);
        StringBuilder b = new StringBuilder();
        List<Character> letters = new ArrayList<>();
        for (int c = 0; c < n; c++) {
            letters.add((char) ('A' + c));
        }
        int length = upTo(n);
        boolean bar = false;
        for (int i = 0; i < length; i++) {
            if (i > 0) {
                boolean putsBar = !bar && random.nextInt(6) == 0;
                b.append(putsBar ? '|' : random.nextInt(4) == 0 ? '=' : '>');
                bar |= putsBar;
            }
            b.append(letters.remove(random.nextInt(letters.size())));
        }
        if (random.nextInt(25) == 0 && b.length() > 0) {
            char[] wrong = {'A', 'B', '>', '|', '=', ' ', 'a', '@', (char) 255, 'I'};
            b.setCharAt(random.nextInt(b.length()), wrong[random.nextInt(wrong.length)]);
        }
        if (random.nextInt(40) == 0 && b.length() > 0) {
            b.setLength(random.nextInt(b.length()));
        }
        return b.toString();
    }

    private boolean typeBallot() {
        String ballot = ballot();
        boolean good = true;
        for (int at = 0; at < ballot.length() && good; ) {
            int size = Math.min(ballot.length() - at, 1 + random.nextInt(8));
            long bytes = 0;
            for (int i = 0; i < size; i++) {
                bytes = bytes << 8 | ballot.charAt(at + i);
            }
            if (size < 8 && random.nextInt(10) == 0) {
                bytes <<= 8;
            }
            good = agree("type", bytes);
            at += size;
        }
        return good;
    }

    private int number(String name, int parameter, int candidates, int kinds) {
        if (random.nextInt(30) == 0) {
            return EDGES[random.nextInt(EDGES.length)];
        }
        switch (name + parameter) {
            case "setLot1": return upTo(candidates);
            case "setLot2": return random.nextBoolean() ? upTo(5) : upTo(99);
            case "ballots0": return 1 + random.nextInt(ballotSize);
            case "takeBack0": case "countOf0": case "kindAt0": return upTo(Math.max(kinds, 1));
            case "takeBack1": return 1 + random.nextInt(ballotSize);
            case "list0": case "setVotes1":
                return random.nextInt(5) == 0 ? 0 : 1 + random.nextInt(random.nextBoolean() ? 20 : 5000000);
            case "ally1": return upTo(4);
            case "seats0": return upTo(5);
            case "seats1": return 1 + upTo(random.nextBoolean() ? 12 : 59);
            case "seats2": return random.nextBoolean() ? 0 : upTo(20);
            case "seatAt0": return upTo(15);
            case "lossAt0": return 1 + upTo(30);
            case "transferable0": return 1 + upTo(2);
            case "writePile0": return upTo(8);
            case "writePile1": return upTo(8) - 1;
            case "outputByte0": return upTo(30);
            case "solidQuotas0": return upTo(1 << candidates);
            case "winner0": case "gain0": case "gainAt0": case "spoiler0": case "winnerWith0": return upTo(4);
            case "votesFor0": return upTo(4);
            case "winnerWith1": return upTo(2 * Math.min(ballotSize, 1000)) - Math.min(ballotSize, 1000);
            case "gainAt1": return upTo(4);
            case "ward0": case "ward1": case "ward2": return 1 + upTo(random.nextBoolean() ? 9 : 99999);
            case "greatestDistrict0": case "districtEnd0": case "districtsWon0": case "wasted0": return 1 + upTo(15);
            case "districtEnd1": return upTo(15);
            case "districtsWon1": case "wasted1": return upTo(1);
            case "member0": return random.nextBoolean() ? upTo(10) : upTo(1000);
            case "setQuota0": return 1 + upTo(random.nextBoolean() ? 40 : 3000);
            case "swings0": case "ordersTurned0": return upTo(12);
            default: return upTo(8);
        }
    }

    private boolean call(String name) {
        if ((name.equals("ballots") || name.equals("winnerWith")) && random.nextInt(8) != 0 && !typeBallot()) {
            return false;
        }
        Method m = method(Ballothall.class, name);
        int candidates = 0;
        while (candidates < 8 && !answer(method(Model.class, "meanRank"), model, new Object[] {candidates})
                .startsWith("Index")) {
            candidates++;
        }
        int kinds = 0;
        while (kinds < 30 && !answer(method(Model.class, "countOf"), model, new Object[] {kinds}).startsWith("Index")) {
            kinds++;
        }
        if (candidates == 8 && name.startsWith("consensus") && random.nextInt(4) != 0) {
            return true;
        }
        Object[] arguments = new Object[m.getParameterCount()];
        for (int i = 0; i < arguments.length; i++) {
            Class<?> type = m.getParameterTypes()[i];
            arguments[i] = type == boolean.class ? (Object) random.nextBoolean()
                : type == long.class ? (Object) random.nextLong() : (Object) number(name, i, candidates, kinds);
        }
        if (name.equals("type") && random.nextInt(3) != 0) {
            return true;
        }
        return agree(name, arguments) && (!name.equals("writePile") || sameOutput());
    }

    private boolean sameOutput() {
        for (int i = -1; i < 240 && callsLeft > 0; i++) {
            callsLeft--;
            Object[] at = {i};
            String got = answer(method(Ballothall.class, "outputByte"), hall, at);
            if (!got.equals(answer(method(Model.class, "outputByte"), model, at))) {
                return agree("outputByte", at);
            }
            if (i >= 0 && got.equals("-1")) {
                break;
            }
        }
        return true;
    }

    private boolean run(int calls) {
        List<String> names = names();
        int first = random.nextInt(9);
        for (int i = 0; i < first; i++) {
            if (!call("candidate")) {
                return false;
            }
        }
        first = random.nextInt(12);
        for (int i = 0; i < first; i++) {
            if (!call("ballots")) {
                return false;
            }
        }
        for (int i = 0; i < calls; i++) {
            boolean changes = random.nextInt(5) < 2;
            String name = changes ? CHANGES[random.nextInt(CHANGES.length)] : names.get(random.nextInt(names.size()));
            if (name.equals("candidate") && random.nextInt(3) != 0) {
                name = "ballots";
            }
            if (!call(name)) {
                return false;
            }
        }
        return call("errors");
    }

    /** A house that is filled up to its limits, or to one less, before other calls are done. */
    private boolean runFull() {
        boolean good = true;
        for (int i = 0; i < 8 && good; i++) {
            good = agree("candidate") && agree("list", 1 + random.nextInt(1000)) && agree("ally", i, upTo(4));
        }
        for (int kind = upTo(1); kind < 30 && good; kind++) {
            for (char sign : Houses.kindText((kind * 11 + 3) % 56).toCharArray()) {
                good = good && agree("type", (long) sign);
            }
            good = good && agree("ballots", 1 + random.nextInt(ballotSize));
        }
        for (int i = upTo(1); i < 16 && good; i++) {
            good = agree("ward", 1 + random.nextInt(9), upTo(9), upTo(9));
        }
        for (int i = upTo(1); i < 12 && good; i++) {
            good = agree("member", upTo(9));
        }
        List<String> names = names();
        for (int i = 0; i < 300 && good; i++) {
            good = call(names.get(random.nextInt(names.size())));
        }
        return good && call("errors");
    }

    private static List<String> names() {
        List<String> names = new ArrayList<>();
        for (Method m : Ballothall.class.getDeclaredMethods()) {
            if (java.lang.reflect.Modifier.isPublic(m.getModifiers())) {
                names.add(m.getName());
            }
        }
        names.sort(null);
        return names;
    }

    private static final int CALLS_OF_PILE = 245;

    /** A house in which these ballots are counted, for some 100 calls. */
    private static Ballothall counted(List<String> texts, int[] counts) {
        Ballothall hall = Check.withCandidates(8);
        for (int kind = 0; kind < texts.size(); kind++) {
            Check.cast(hall, texts.get(kind), counts[kind]);
        }
        hall.transferable(3);
        return hall;
    }

    private void countInModel(List<String> texts, int[] counts) {
        for (int c = 0; c < 8; c++) {
            model.candidate();
        }
        for (int kind = 0; kind < texts.size(); kind++) {
            for (int i = 0; i < texts.get(kind).length(); i++) {
                model.type(texts.get(kind).charAt(i));
            }
            model.ballots(counts[kind]);
        }
        model.transferable(3);
    }

    /** A count of many ballots of many kinds for 8 candidates, whose piles have long numbers. */
    private boolean countMany() {
        int[] counts = new int[5 + random.nextInt(20)];
        List<String> texts = new ArrayList<>();
        for (int kind = 0; kind < counts.length; kind++) {
            StringBuilder text = new StringBuilder();
            List<Character> letters = new ArrayList<>(List.of('A', 'B', 'C', 'D', 'E', 'F', 'G', 'H'));
            while (letters.size() > kind % 3) {
                text.append(text.length() == 0 ? "" : random.nextInt(3) == 0 ? "=" : ">")
                    .append(letters.remove(random.nextInt(letters.size())));
            }
            texts.add(text.toString());
            counts[kind] = 1 + random.nextInt(100000);
        }
        countInModel(texts, counts);
        callsLeft = 0;
        boolean good = true;
        for (int step = 0; step <= model.steps() && good; step++) {
            for (int c = -1; c < 8 && good; c++) {
                if (callsLeft < CALLS_OF_PILE) {
                    hall = counted(texts, counts);
                    callsLeft = 400;
                }
                good = agree("writePile", step, c) && sameOutput();
            }
        }
        return good && agree("steps") && agree("errors") && agree("checksum");
    }

    public static void main(String[] arguments) {
        int runs = arguments.length > 0 ? Integer.parseInt(arguments[0]) : 400;
        long start = arguments.length > 1 ? Long.parseLong(arguments[1]) : 1;
        int failed = 0;
        for (long seed = start; seed < start + runs && failed < 3; seed++) {
            if (!new ModelTest(seed).run(400) || !new ModelTest(seed).countMany()
                    || seed % 4 == 0 && !new ModelTest(seed).runFull()) {
                System.out.println("seed " + seed);
                failed++;
            }
        }
        System.out.println("ModelTest: " + runs + " runs, " + failed + " failed");
        if (failed > 0) {
            System.exit(1);
        }
    }
}
