import java.util.Arrays;
import java.util.NoSuchElementException;

/**
 * Counts votes: ballots with ranks, ties and approvals, seats for lists, the transferable vote,
 * pairwise comparisons, single winners, districts and the power of council members.
 */
public final class Ballothall {

    /** There is none. */
    public static final int NONE = -1;

    private static final int MAX_CANDIDATES = 8;
    private static final int MAX_KINDS = 30;
    private static final int MAX_OF_KIND = 1000000;
    private static final int MAX_AT_ONCE = 100000;
    private static final int MAX_MORE = 1000;
    private static final int MAX_LISTS = 8;
    private static final int MAX_ALLIANCE = 4;
    private static final int MAX_SEATS = 60;
    private static final int MAX_THRESHOLD = 20;
    private static final int MAX_WARDS = 16;
    private static final int MAX_HEADS = 100000;
    private static final int TOO_MANY_HEADS = MAX_WARDS * MAX_HEADS + 1;
    private static final int MAX_WARD_VOTES = 100000;
    private static final int MAX_MEMBERS = 12;
    private static final int MAX_WEIGHT = 1000;
    private static final int MAX_QUOTA = MAX_MEMBERS * MAX_WEIGHT;
    private static final int MAX_TEXT = 30;
    private static final int MAX_UNDO = 20;
    private static final int MAX_LOT = 99;
    private static final int MAX_LIST_VOTES = 10000000;
    private static final int MAX_WINNERS = 3;
    private static final int MAX_LIARS = 5;

    // The row behind those of the kinds holds a ballot that is only tried, and never counted for good.
    private static final int TRIAL = MAX_KINDS;
    private static final int ROWS = MAX_KINDS + 1;

    // 20 undos come back to 20 older results, so that 21 are enough to find each of them again.
    private static final int KEPT = MAX_UNDO + 1;

    private static final int MOST_FIRSTS = 0;
    private static final int RUNOFF = 1;
    private static final int BY_PATHS = 2;
    private static final int BY_POINTS = 3;
    private static final int BY_APPROVALS = 4;

    private static final int LARGEST_REMAINDERS = 5;

    private static final int CANDIDATE_CAME = 0;
    private static final int CANDIDATE_LOT_SET = 1;
    private static final int LIST_LOT_SET = 2;
    private static final int KIND_CAME = 3;
    private static final int COUNT_SET = 4;
    private static final int LIST_CAME = 5;
    private static final int VOTES_SET = 6;
    private static final int ALLIANCE_SET = 7;
    private static final int SEATS_GIVEN = 8;
    private static final int BALLOTS_COUNTED = 9;
    private static final int WARD_CAME = 10;
    private static final int MEMBER_CAME = 11;
    private static final int QUOTA_SET = 12;

    // A count of 30 kinds with 1000000 ballots each ends with numbers below 2 to the power of 322:
    // 11 limbs, and one more that a division needs while it goes on, and one to spare.
    private static final int LIMBS = 13;
    private static final int LIMB_BITS = 30;
    private static final int LIMB_MASK = (1 << LIMB_BITS) - 1;

    // Euclid's algorithm on numbers of 390 bits takes fewer than 600 divisions.
    private static final int MAX_DIVISIONS = 1000;

    // What is kept of a moment of a count: the piles of all candidates, what is exhausted, the denominator.
    private static final int EXHAUSTED = MAX_CANDIDATES;
    private static final int PILES = MAX_CANDIDATES + 1;
    private static final int NUMBERS_OF_MOMENT = PILES + 1;
    private static final int MOMENTS = MAX_CANDIDATES + 1;

    // Two numbers of at most 118 digits, and the slash.
    private static final int MAX_OUTPUT = 240;

    // Every weight 1 / (k + 1) with k + 1 up to 8 is a whole number of parts of this size.
    private static final int APPROVAL_PARTS = 840;

    private static final long[] FACTORIAL = {
        1L, 1L, 2L, 6L, 24L, 120L, 720L, 5040L, 40320L, 362880L, 3628800L, 39916800L, 479001600L
    };

    private final BallotBox box = new BallotBox();
    private final Poll poll = new Poll(box);
    private final FalseBallot falseBallot = new FalseBallot(box, poll);
    private final Lists lists = new Lists();
    private final Counting counting = new Counting(box);
    private final Wards wards = new Wards();
    private final Council council = new Council();

    // The changes that can be undone, in a ring: what was done, where, and what was there before.
    private final int[] changeWhat = new int[MAX_UNDO];
    private final int[] changeWhere = new int[MAX_UNDO];
    private final int[] changeBefore = new int[MAX_UNDO];
    private int newestChange;
    private int changes;

    private final int[] output = new int[MAX_OUTPUT];
    private int outputLength;

    /** Creates a house without candidates, ballots, lists, wards and members. */
    public Ballothall() {
    }

    // ---- candidates, ballots

    public int candidate() throws IllegalStateException {
        needRoom(box.candidates + 1, MAX_CANDIDATES);
        int number = box.candidates;
        box.lot[number] = number;
        box.candidates++;
        remember(CANDIDATE_CAME, number, 0);
        return number;
    }

    public int setLot(boolean isList, int number, int lot)
            throws IndexOutOfBoundsException, IllegalArgumentException {
        needIndex(number, isList ? lists.size : box.candidates);
        needRange(lot, 0, MAX_LOT);
        int[] lots = isList ? lists.lot : box.lot;
        int before = lots[number];
        lots[number] = lot;
        remember(isList ? LIST_LOT_SET : CANDIDATE_LOT_SET, number, before);
        return before;
    }

    public int type(long bytes) throws IllegalStateException {
        int more = 0;
        for (int shift = 56; shift >= 0; shift -= 8) {
            if ((bytes >> shift & 255) != 0) {
                more++;
            }
        }
        needRoom(box.signs + more, MAX_TEXT);
        for (int shift = 56; shift >= 0; shift -= 8) {
            box.appendSign((int) (bytes >> shift & 255));
        }
        return box.signs;
    }

    public int ballots(int count) throws IllegalArgumentException, IllegalStateException {
        needRange(count, 1, MAX_AT_ONCE);
        int error = box.readTrial();
        if (error != NONE) {
            box.signs = 0;
            return -3 - error;
        }
        int kind = box.kindOfTrial();
        if (kind == NONE) {
            needRoom(box.kinds + 1, MAX_KINDS);
            kind = box.keepTrial();
            remember(KIND_CAME, kind, 0);
        } else {
            needRoom(box.count[kind] + count, MAX_OF_KIND);
            remember(COUNT_SET, kind, box.count[kind]);
        }
        box.signs = 0;
        box.count[kind] += count;
        return kind;
    }

    public int takeBack(int kind, int count) throws IndexOutOfBoundsException, IllegalArgumentException {
        needIndex(kind, box.kinds);
        needRange(count, 1, box.count[kind]);
        remember(COUNT_SET, kind, box.count[kind]);
        box.count[kind] -= count;
        return box.count[kind];
    }

    public int countOf(int kind) throws IndexOutOfBoundsException {
        needIndex(kind, box.kinds);
        return box.count[kind];
    }

    public int kindAt(int kind, int candidate, boolean isRank) throws IndexOutOfBoundsException {
        needIndex(kind, box.kinds);
        needIndex(candidate, box.candidates);
        return isRank ? box.rankOf(kind, candidate) : box.approved[kind] >> candidate & 1;
    }

    public int allBallots() {
        return box.ballotsOf(box.count, box.kinds);
    }

    // ---- lists

    public int list(int votes) throws IllegalArgumentException, IllegalStateException {
        needRange(votes, 0, MAX_LIST_VOTES);
        needRoom(lists.size + 1, MAX_LISTS);
        int number = lists.append(votes);
        remember(LIST_CAME, number, 0);
        return number;
    }

    public int setVotes(int list, int votes) throws IndexOutOfBoundsException, IllegalArgumentException {
        needIndex(list, lists.size);
        needRange(votes, 0, MAX_LIST_VOTES);
        int before = lists.votes[list];
        lists.votes[list] = votes;
        remember(VOTES_SET, list, before);
        return before;
    }

    public int ally(int list, int alliance) throws IndexOutOfBoundsException, IllegalArgumentException {
        needIndex(list, lists.size);
        needRange(alliance, 0, MAX_ALLIANCE);
        int before = lists.alliance[list];
        lists.alliance[list] = alliance;
        remember(ALLIANCE_SET, list, before);
        return before;
    }

    public int seats(int method, int seats, int threshold) throws IllegalArgumentException {
        needRange(method, 0, LARGEST_REMAINDERS);
        needRange(seats, 1, MAX_SEATS);
        needRange(threshold, 0, MAX_THRESHOLD);
        int units = lists.spread(method, seats, threshold);
        lists.keepSpread();
        remember(SEATS_GIVEN, 0, 0);
        return units;
    }

    public int seatsOf(int list) throws IndexOutOfBoundsException {
        needIndex(list, lists.size);
        return lists.latest().got[list];
    }

    public int seatAt(int index) throws NoSuchElementException {
        KeptSeats kept = lists.latest();
        needPlace(index, kept.isAllied ? 0 : kept.given);
        return kept.order[index];
    }

    public int lossAt(int most) throws IllegalArgumentException {
        needRange(most, 1, MAX_SEATS);
        return lists.firstLoss(most);
    }

    // ---- the transferable vote

    public int transferable(int seats) throws IllegalArgumentException, IllegalStateException {
        needRange(seats, 1, MAX_WINNERS);
        if (box.candidates == 0) {
            throw new IllegalStateException("there are no candidates");
        }
        int elected = counting.holdCount(seats);
        remember(BALLOTS_COUNTED, 0, 0);
        return elected;
    }

    public int quota() {
        Count count = counting.latest();
        return count == null ? NONE : count.quota;
    }

    public int electedAt(int index) throws NoSuchElementException {
        Count count = counting.latest();
        if (count == null || index < 0 || index >= count.elections) {
            throw new NoSuchElementException("nobody was elected in this place");
        }
        return count.elected[index];
    }

    public int excludedAt(int index) throws NoSuchElementException {
        Count count = counting.latest();
        if (count == null || index < 0 || index >= count.exclusions) {
            throw new NoSuchElementException("nobody was excluded in this place");
        }
        return count.excluded[index];
    }

    public int steps() {
        Count count = counting.latest();
        return count == null ? 0 : count.elections + count.exclusions;
    }

    public int writePile(int step, int candidate) throws IndexOutOfBoundsException, NoSuchElementException {
        if (candidate != NONE) {
            needIndex(candidate, box.candidates);
        }
        Count count = counting.latest();
        if (count == null || step < 0 || step > count.elections + count.exclusions) {
            throw new NoSuchElementException("the count had no such moment");
        }
        counting.loadPile(count, step, candidate == NONE ? EXHAUSTED : candidate);
        counting.reduce();
        outputLength = 0;
        appendNumber(counting.numerator);
        if (!counting.denominator.isOne()) {
            appendByte('/');
            appendNumber(counting.denominator);
        }
        return outputLength;
    }

    public int outputByte(int index) {
        return index < 0 || index >= outputLength ? NONE : output[index];
    }

    public int solidQuotas(int candidates) throws IllegalArgumentException, IllegalStateException {
        needRange(candidates, 1, box.everybody());
        Count count = counting.latest();
        if (count == null || count.quota < 1) {
            throw new IllegalStateException("there was no count");
        }
        box.findSupport(box.count, box.kinds, box.everybody());
        return Math.min(box.support[candidates] / count.quota, Integer.bitCount(candidates));
    }

    // ---- pairs

    public int ahead(int candidate, int other) throws IndexOutOfBoundsException {
        needIndex(candidate, box.candidates);
        needIndex(other, box.candidates);
        poll.open(box.everybody());
        return poll.pair(candidate, other);
    }

    public int beatsAll() {
        poll.open(box.everybody());
        return poll.beaterOfAll();
    }

    public int strongestPath(int candidate, int other) throws IndexOutOfBoundsException {
        needIndex(candidate, box.candidates);
        needIndex(other, box.candidates);
        poll.open(box.everybody());
        poll.findPaths();
        return poll.path(candidate, other);
    }

    public int pathWinners() {
        poll.open(box.everybody());
        return poll.winnersByPaths();
    }

    public int beatingSet() {
        poll.open(box.everybody());
        return poll.smallestBeatingSet();
    }

    public int consensusAt(int index) throws NoSuchElementException {
        needPlace(index, box.candidates);
        poll.open(box.everybody());
        poll.findDistances();
        return poll.consensusPlace(index);
    }

    public long consensusDistance() {
        poll.open(box.everybody());
        poll.findDistances();
        return poll.distance[box.everybody()];
    }

    // ---- single winners, approvals

    public int winner(int way) throws IllegalArgumentException {
        needRange(way, MOST_FIRSTS, BY_APPROVALS);
        poll.open(box.everybody());
        return poll.bestBy(way);
    }

    public int votesFor(int way, int candidate) throws IndexOutOfBoundsException, IllegalArgumentException {
        needIndex(candidate, box.candidates);
        if (way != MOST_FIRSTS && way != BY_POINTS && way != BY_APPROVALS) {
            throw new IllegalArgumentException("this way does not count once");
        }
        poll.open(box.everybody());
        poll.findScores(way);
        return (int) poll.score[candidate];
    }

    public int runoffOut(int index) throws NoSuchElementException {
        needPlace(index, box.candidates - 1);
        poll.open(box.everybody());
        poll.lastOfRunoff();
        return poll.order[index];
    }

    public int winnerWith(int way, int count) throws IllegalArgumentException {
        needRange(way, MOST_FIRSTS, BY_APPROVALS);
        needRange(count, -MAX_MORE, MAX_MORE);
        int error = box.readTrial();
        box.signs = 0;
        if (error != NONE) {
            return -3 - error;
        }
        poll.open(box.everybody());
        int kind = box.kindOfTrial();
        if (count > 0) {
            poll.change(TRIAL, count);
        } else if (kind != NONE) {
            poll.change(kind, -Math.min(-count, box.count[kind]));
        }
        return poll.bestBy(way);
    }

    public int gain(int way) throws IllegalArgumentException, IllegalStateException {
        needRange(way, MOST_FIRSTS, BY_APPROVALS);
        needFewCandidates();
        return falseBallot.findKind(way);
    }

    public int gainAt(int way, int index)
            throws IllegalArgumentException, IllegalStateException, NoSuchElementException {
        needRange(way, MOST_FIRSTS, BY_APPROVALS);
        needFewCandidates();
        needPlace(index, falseBallot.findKind(way) == NONE ? 0 : box.candidates);
        return falseBallot.order[index];
    }

    public int spoiler(int way) throws IllegalArgumentException {
        needRange(way, MOST_FIRSTS, BY_APPROVALS);
        poll.open(box.everybody());
        int present = poll.bestBy(way);
        for (int other = 0; other < box.candidates; other++) {
            if (other != present) {
                poll.open(box.everybody() & ~(1 << other));
                if (poll.bestBy(way) != present) {
                    return other;
                }
            }
        }
        return NONE;
    }

    public int proportionalAt(int index) throws NoSuchElementException {
        needPlace(index, box.candidates);
        poll.open(box.everybody());
        poll.seatByApprovals();
        return poll.order[index];
    }

    public int safeAfter() {
        if (box.candidates == 0) {
            return NONE;
        }
        poll.open(box.everybody());
        int best = poll.bestBy(MOST_FIRSTS);
        int ballots = 0;
        for (int other = 0; other < box.candidates; other++) {
            if (other != best) {
                ballots = Math.max(ballots, poll.safeAgainst(best, other));
            }
        }
        return ballots;
    }

    // ---- districts

    public int ward(int heads, int votesA, int votesB) throws IllegalArgumentException, IllegalStateException {
        needRange(heads, 1, MAX_HEADS);
        needRange(votesA, 0, MAX_WARD_VOTES);
        needRange(votesB, 0, MAX_WARD_VOTES);
        needRoom(wards.size + 1, MAX_WARDS);
        int number = wards.append(heads, votesA, votesB);
        remember(WARD_CAME, number, 0);
        return number;
    }

    public int greatestDistrict(int districts) throws IllegalArgumentException {
        needRange(districts, 1, wards.size);
        return wards.divide(districts);
    }

    public int districtEnd(int districts, int index) throws IllegalArgumentException, NoSuchElementException {
        needRange(districts, 1, wards.size);
        needPlace(index, districts);
        wards.divide(districts);
        return wards.end[index];
    }

    public int districtsWon(int districts, int party) throws IllegalArgumentException {
        needRange(districts, 1, wards.size);
        needRange(party, 0, 1);
        wards.divide(districts);
        int won = 0;
        for (int district = 0; district < districts; district++) {
            if (wards.votesIn(district, party) > wards.votesIn(district, 1 - party)) {
                won++;
            }
        }
        return won;
    }

    public int wasted(int districts, int party) throws IllegalArgumentException {
        needRange(districts, 1, wards.size);
        needRange(party, 0, 1);
        wards.divide(districts);
        int wasted = 0;
        for (int district = 0; district < districts; district++) {
            int own = wards.votesIn(district, party);
            int others = wards.votesIn(district, 1 - party);
            wasted += own > others ? own - (own + others) / 2 - 1 : own;
        }
        return wasted;
    }

    // ---- councils

    public int member(int weight) throws IllegalArgumentException, IllegalStateException {
        needRange(weight, 0, MAX_WEIGHT);
        needRoom(council.size + 1, MAX_MEMBERS);
        int number = council.append(weight);
        remember(MEMBER_CAME, number, 0);
        return number;
    }

    public int setQuota(int quota) throws IllegalArgumentException {
        needRange(quota, 1, MAX_QUOTA);
        int before = council.quota;
        council.quota = quota;
        remember(QUOTA_SET, 0, before);
        return before;
    }

    public int swings(int member) throws IndexOutOfBoundsException {
        needIndex(member, council.size);
        council.findSums();
        return council.setsSwungBy(member);
    }

    public long ordersTurned(int member) throws IndexOutOfBoundsException {
        needIndex(member, council.size);
        council.findSums();
        return council.ordersTurnedBy(member);
    }

    // ---- undo, checks

    public int undo() {
        if (changes == 0) {
            return NONE;
        }
        takeChangeBack(changeWhat[newestChange], changeWhere[newestChange], changeBefore[newestChange]);
        newestChange = (newestChange + MAX_UNDO - 1) % MAX_UNDO;
        changes--;
        return changes;
    }

    public long checksum() {
        long sum = 0;
        for (int kind = 0; kind < box.kinds; kind++) {
            sum = 31 * sum + box.count[kind];
        }
        for (int list = 0; list < lists.size; list++) {
            sum = 31 * sum + lists.votes[list];
            sum = 31 * sum + lists.latest().got[list];
        }
        Count count = counting.latest();
        if (count != null) {
            for (int place = 0; place < count.elections; place++) {
                sum = 31 * sum + count.elected[place];
            }
        }
        for (int member = 0; member < council.size; member++) {
            sum = 31 * sum + council.weight[member];
        }
        return sum;
    }

    public double meanRank(int candidate) throws IndexOutOfBoundsException {
        needIndex(candidate, box.candidates);
        long ranks = 0;
        for (int kind = 0; kind < box.kinds; kind++) {
            ranks += (long) box.rankOf(kind, candidate) * box.count[kind];
        }
        int ballots = box.ballotsOf(box.count, box.kinds);
        return ballots == 0 ? 0.0 : (double) ranks / (double) ballots;
    }

    public float seatShare(int list) throws IndexOutOfBoundsException {
        needIndex(list, lists.size);
        KeptSeats kept = lists.latest();
        return kept.given == 0 ? 0.0f : (float) kept.got[list] / (float) kept.given;
    }

    public int errors() {
        return (lists.isUnjust() ? 1 : 0) + countErrors() + (isBeaterOfAllMissed() ? 1 : 0)
            + (council.isOrderMissed() ? 1 : 0);
    }

    // ---- what the calls above share

    private static boolean has(int set, int candidate) {
        return (set >> candidate & 1) != 0;
    }

    private static void needIndex(int index, int size) {
        if (index < 0 || index >= size) {
            throw new IndexOutOfBoundsException("there is none with this number");
        }
    }

    private static void needRange(int value, int least, int most) {
        if (value < least || value > most) {
            throw new IllegalArgumentException("out of range");
        }
    }

    private static void needRoom(int size, int most) {
        if (size > most) {
            throw new IllegalStateException("there is no room for it");
        }
    }

    private static void needPlace(int index, int size) {
        if (index < 0 || index >= size) {
            throw new NoSuchElementException("there is nothing in this place");
        }
    }

    private void needFewCandidates() {
        if (box.candidates > MAX_LIARS) {
            throw new IllegalStateException("there are too many candidates");
        }
    }

    private void remember(int what, int where, int before) {
        newestChange = (newestChange + 1) % MAX_UNDO;
        changeWhat[newestChange] = what;
        changeWhere[newestChange] = where;
        changeBefore[newestChange] = before;
        changes = Math.min(changes + 1, MAX_UNDO);
    }

    private void takeChangeBack(int what, int where, int before) {
        switch (what) {
            case CANDIDATE_CAME:
                box.candidates = where;
                break;
            case CANDIDATE_LOT_SET:
                box.lot[where] = before;
                break;
            case KIND_CAME:
                box.kinds = where;
                break;
            case COUNT_SET:
                box.count[where] = before;
                break;
            case BALLOTS_COUNTED:
                counting.goBack();
                break;
            case WARD_CAME:
                wards.size = where;
                break;
            case MEMBER_CAME:
                council.size = where;
                break;
            case QUOTA_SET:
                council.quota = before;
                break;
            default:
                lists.takeChangeBack(what, where, before);
                break;
        }
    }

    private void appendByte(int oneByte) {
        if (outputLength < output.length) {
            output[outputLength] = oneByte;
            outputLength++;
        }
    }

    /** Writes a number, which is 0 then. */
    private void appendNumber(Natural number) {
        int first = outputLength;
        appendByte('0' + number.divideSmall(10));
        for (int digit = 1; digit < MAX_OUTPUT && number.size > 0; digit++) {
            appendByte('0' + number.divideSmall(10));
        }
        for (int i = first, j = outputLength - 1; i < j; i++, j--) {
            int digit = output[i];
            output[i] = output[j];
            output[j] = digit;
        }
    }

    private int countErrors() {
        Count count = counting.latest();
        if (count == null || count.quota < 1) {
            return 0;
        }
        int everybody = (1 << count.candidates) - 1;
        int elected = 0;
        for (int place = 0; place < count.elections; place++) {
            elected |= 1 << count.elected[place];
        }
        int wrong = counting.unbalancedSteps(count);
        box.findSupport(count.ballotsOfKind, count.kinds, everybody);
        for (int set = 1; set <= everybody; set++) {
            boolean isShort = box.support[set] / count.quota > Integer.bitCount(set & elected);
            if (isShort && (set & ~elected) != 0) {
                wrong++;
            }
        }
        return wrong;
    }

    private boolean isBeaterOfAllMissed() {
        poll.open(box.everybody());
        int best = poll.beaterOfAll();
        if (best == NONE) {
            return false;
        }
        poll.findDistances();
        return poll.winnersByPaths() != 1 << best || poll.consensusPlace(0) != best;
    }

    /**
     * The candidates, the ballot kinds and the text of the next ballot. A set of candidates is a number
     * with bit i for the candidate i.
     */
    private static final class BallotBox {
        private final int[] sign = new int[MAX_TEXT];
        private int signs;
        private int candidates;
        private int kinds;
        private final int[] lot = new int[MAX_CANDIDATES];
        private final int[] count = new int[ROWS];
        private final int[] approved = new int[ROWS];
        private final int[] groups = new int[ROWS];
        private final int[][] group = new int[ROWS][MAX_CANDIDATES];
        private final int[] support = new int[1 << MAX_CANDIDATES];

        private int everybody() {
            return (1 << candidates) - 1;
        }

        private boolean winsLot(int candidate, int other) {
            return lot[candidate] < lot[other] || lot[candidate] == lot[other] && candidate < other;
        }

        private int ballotsOf(int[] counts, int size) {
            int sum = 0;
            for (int kind = 0; kind < size; kind++) {
                sum += counts[kind];
            }
            return sum;
        }

        private void appendSign(int oneByte) {
            if (oneByte != 0 && signs < sign.length) {
                sign[signs] = oneByte;
                signs++;
            }
        }

        /** Reads the text into the trial row; answers the index of the error, NONE without one. */
        private int readTrial() {
            clearTrial();
            int used = 0;
            int aheadOfBar = NONE;
            boolean opensGroup = true;
            // The empty text is a ballot, so that a letter is missed only if there is something.
            boolean wantsLetter = signs > 0;
            for (int i = 0; i < signs; i++) {
                int here = sign[i];
                if (wantsLetter) {
                    int candidate = here - 'A';
                    if (candidate < 0 || candidate >= candidates || has(used, candidate)) {
                        return i;
                    }
                    used |= 1 << candidate;
                    rankOnTrial(candidate, opensGroup);
                } else if (here == '|' && aheadOfBar == NONE) {
                    aheadOfBar = used;
                } else if (here != '>' && here != '=') {
                    return i;
                }
                opensGroup = here != '=';
                wantsLetter = !wantsLetter;
            }
            if (wantsLetter) {
                return signs;
            }
            approved[TRIAL] = aheadOfBar == NONE ? group[TRIAL][0] : aheadOfBar;
            return NONE;
        }

        private void clearTrial() {
            groups[TRIAL] = 0;
            approved[TRIAL] = 0;
            Arrays.fill(group[TRIAL], 0);
        }

        private void rankOnTrial(int candidate, boolean opensGroup) {
            if (opensGroup && groups[TRIAL] < MAX_CANDIDATES) {
                groups[TRIAL]++;
            }
            int last = Math.max(groups[TRIAL] - 1, 0);
            group[TRIAL][last] |= 1 << candidate;
        }

        private int kindOfTrial() {
            for (int kind = 0; kind < kinds; kind++) {
                if (isLikeTrial(kind)) {
                    return kind;
                }
            }
            return NONE;
        }

        private boolean isLikeTrial(int kind) {
            if (groups[kind] != groups[TRIAL] || approved[kind] != approved[TRIAL]) {
                return false;
            }
            for (int g = 0; g < groups[kind]; g++) {
                if (group[kind][g] != group[TRIAL][g]) {
                    return false;
                }
            }
            return true;
        }

        /** Makes the trial row a kind without ballots. */
        private int keepTrial() {
            int kind = kinds;
            count[kind] = 0;
            approved[kind] = approved[TRIAL];
            groups[kind] = groups[TRIAL];
            System.arraycopy(group[TRIAL], 0, group[kind], 0, MAX_CANDIDATES);
            kinds++;
            return kind;
        }

        private int rankOf(int row, int candidate) {
            for (int g = 0; g < groups[row]; g++) {
                if (has(group[row][g], candidate)) {
                    return g;
                }
            }
            return groups[row];
        }

        /** The candidates of the first written group that has any of these, 0 without such a group. */
        private int topOf(int row, int among) {
            for (int g = 0; g < groups[row]; g++) {
                int top = group[row][g] & among;
                if (top != 0) {
                    return top;
                }
            }
            return 0;
        }

        /** The candidate who stands alone at the top among these, otherwise NONE. */
        private int soleTopOf(int row, int among) {
            int top = topOf(row, among);
            // The number of a set's only bit is the number of bits below it.
            return Integer.bitCount(top) == 1 ? Integer.bitCount(top - 1) : NONE;
        }

        /** Finds for each set how many ballots rank its members strictly ahead of all others. */
        private void findSupport(int[] counts, int size, int everybody) {
            Arrays.fill(support, 0);
            for (int kind = 0; kind < size; kind++) {
                int set = 0;
                for (int g = 0; g < groups[kind]; g++) {
                    set |= group[kind][g];
                    if (set != everybody) {
                        support[set] += counts[kind];
                    }
                }
            }
            // Nobody is outside, so that every ballot does.
            support[everybody] = ballotsOf(counts, size);
        }
    }

    /** One look at the ballots: how the candidates that are present stand to one another. */
    private static final class Poll {
        private final BallotBox box;
        private int present;
        private int ballots;
        private final int[] weight = new int[ROWS];
        private final int[] firsts = new int[MAX_CANDIDATES];
        private final int[] approvals = new int[MAX_CANDIDATES];
        private final int[] pairs = new int[MAX_CANDIDATES * MAX_CANDIDATES];
        private final int[] beaten = new int[MAX_CANDIDATES];
        private final int[] paths = new int[MAX_CANDIDATES * MAX_CANDIDATES];
        private final long[] score = new long[MAX_CANDIDATES];
        private final int[] order = new int[MAX_CANDIDATES];
        private final long[] distance = new long[1 << MAX_CANDIDATES];

        private Poll(BallotBox itsBox) {
            box = itsBox;
        }

        /** Counts all ballots as if only these candidates existed. */
        private void open(int candidates) {
            present = candidates;
            ballots = 0;
            Arrays.fill(weight, 0);
            Arrays.fill(firsts, 0);
            Arrays.fill(approvals, 0);
            Arrays.fill(pairs, 0);
            for (int kind = 0; kind < box.kinds; kind++) {
                change(kind, box.count[kind]);
            }
        }

        /** Adds ballots of a row, or takes them away. */
        private void change(int row, int by) {
            if (by == 0) {
                return;
            }
            weight[row] += by;
            ballots += by;
            int first = box.soleTopOf(row, present);
            if (first != NONE) {
                firsts[first] += by;
            }
            int behind = present;
            for (int g = 0; g < box.groups[row]; g++) {
                int here = box.group[row][g] & present;
                behind &= ~here;
                changePairs(here, behind, by);
            }
            for (int c = 0; c < box.candidates; c++) {
                if (has(box.approved[row] & present, c)) {
                    approvals[c] += by;
                }
            }
        }

        private void changePairs(int front, int behind, int by) {
            for (int c = 0; c < box.candidates; c++) {
                if (has(front, c)) {
                    for (int other = 0; other < box.candidates; other++) {
                        if (has(behind, other)) {
                            pairs[c * MAX_CANDIDATES + other] += by;
                        }
                    }
                }
            }
        }

        private int pair(int candidate, int other) {
            return pairs[candidate * MAX_CANDIDATES + other];
        }

        private int path(int candidate, int other) {
            return paths[candidate * MAX_CANDIDATES + other];
        }

        private boolean beats(int candidate, int other) {
            return pair(candidate, other) > pair(other, candidate);
        }

        private void findBeaten() {
            Arrays.fill(beaten, 0);
            for (int c = 0; c < box.candidates; c++) {
                for (int other = 0; other < box.candidates; other++) {
                    if (beats(c, other)) {
                        beaten[c] |= 1 << other;
                    }
                }
            }
        }

        private int beaterOfAll() {
            findBeaten();
            for (int c = 0; c < box.candidates; c++) {
                if (beaten[c] == (present & ~(1 << c))) {
                    return c;
                }
            }
            return NONE;
        }

        private int smallestBeatingSet() {
            findBeaten();
            int smallest = present;
            for (int set = 1; set < present; set++) {
                if (Integer.bitCount(set) < Integer.bitCount(smallest) && isBeatingSet(set)) {
                    smallest = set;
                }
            }
            return smallest;
        }

        private boolean isBeatingSet(int set) {
            for (int c = 0; c < box.candidates; c++) {
                if (has(set, c) && (beaten[c] | set) != present) {
                    return false;
                }
            }
            return true;
        }

        private void findPaths() {
            for (int c = 0; c < box.candidates; c++) {
                for (int other = 0; other < box.candidates; other++) {
                    paths[c * MAX_CANDIDATES + other] = beats(c, other) ? pair(c, other) : 0;
                }
            }
            for (int middle = 0; middle < box.candidates; middle++) {
                for (int c = 0; c < box.candidates; c++) {
                    if (c != middle && path(c, middle) > 0) {
                        widenPaths(c, middle);
                    }
                }
            }
        }

        private void widenPaths(int c, int middle) {
            int start = path(c, middle);
            for (int other = 0; other < box.candidates; other++) {
                int strength = Math.min(start, path(middle, other));
                if (other != c && strength > path(c, other)) {
                    paths[c * MAX_CANDIDATES + other] = strength;
                }
            }
        }

        private int winnersByPaths() {
            findPaths();
            int winners = present;
            for (int c = 0; c < box.candidates; c++) {
                for (int other = 0; other < box.candidates; other++) {
                    if (path(other, c) > path(c, other)) {
                        winners &= ~(1 << c);
                    }
                }
            }
            return winners;
        }

        /** Finds for each set the smallest distance of an order of its members alone. */
        private void findDistances() {
            distance[0] = 0;
            for (int set = 1; set <= present; set++) {
                long least = NONE;
                for (int c = 0; c < box.candidates; c++) {
                    if (has(set, c)) {
                        long sum = distanceWithFirst(set, c);
                        least = least == NONE ? sum : Math.min(least, sum);
                    }
                }
                distance[set] = least;
            }
        }

        private long distanceWithFirst(int set, int first) {
            int behind = set & ~(1 << first);
            long sum = distance[behind];
            for (int other = 0; other < box.candidates; other++) {
                if (has(behind, other)) {
                    sum += pair(other, first);
                }
            }
            return sum;
        }

        private int consensusPlace(int index) {
            int left = present;
            int found = NONE;
            for (int place = 0; place <= index && left != 0; place++) {
                found = firstOfConsensus(left);
                left &= ~(1 << found);
            }
            return found;
        }

        private int firstOfConsensus(int set) {
            for (int c = 0; c < box.candidates; c++) {
                if (has(set, c) && distanceWithFirst(set, c) == distance[set]) {
                    return c;
                }
            }
            return 0;
        }

        private int bestBy(int way) {
            if (present == 0) {
                return NONE;
            }
            if (way == RUNOFF) {
                return lastOfRunoff();
            }
            if (way == BY_PATHS) {
                return bestByLot(winnersByPaths());
            }
            findScores(way);
            return greatestOf(present);
        }

        private void findScores(int way) {
            for (int c = 0; c < box.candidates; c++) {
                if (way == BY_POINTS) {
                    score[c] = pointsOf(c);
                } else {
                    score[c] = way == BY_APPROVALS ? approvals[c] : firsts[c];
                }
            }
        }

        private long pointsOf(int candidate) {
            long points = 0;
            for (int other = 0; other < box.candidates; other++) {
                if (other != candidate && has(present, other)) {
                    // 2 for each ballot that ranks the candidate ahead, 1 for each that ranks both equal
                    points += ballots + pair(candidate, other) - pair(other, candidate);
                }
            }
            return points;
        }

        private int bestByLot(int set) {
            int best = NONE;
            for (int c = 0; c < box.candidates; c++) {
                if (has(set, c) && (best == NONE || box.winsLot(c, best))) {
                    best = c;
                }
            }
            return best;
        }

        private int greatestOf(int set) {
            int best = NONE;
            for (int c = 0; c < box.candidates; c++) {
                if (has(set, c) && (best == NONE || score[c] > score[best]
                        || score[c] == score[best] && box.winsLot(c, best))) {
                    best = c;
                }
            }
            return best;
        }

        private int smallestOf(int set) {
            int worst = NONE;
            for (int c = 0; c < box.candidates; c++) {
                if (has(set, c) && (worst == NONE || score[c] < score[worst]
                        || score[c] == score[worst] && box.winsLot(worst, c))) {
                    worst = c;
                }
            }
            return worst;
        }

        /** Holds the runoff, keeps the order in which candidates go, and answers who is left. */
        private int lastOfRunoff() {
            int left = present;
            int rounds = Integer.bitCount(present) - 1;
            for (int round = 0; round < rounds; round++) {
                scoreTopsOf(left);
                int gone = smallestOf(left);
                order[round] = gone;
                left &= ~(1 << gone);
            }
            return bestByLot(left);
        }

        private void scoreTopsOf(int left) {
            Arrays.fill(score, 0);
            for (int row = 0; row < ROWS; row++) {
                int top = weight[row] == 0 ? NONE : box.soleTopOf(row, left);
                if (top != NONE) {
                    score[top] += weight[row];
                }
            }
        }

        private void seatByApprovals() {
            int seated = 0;
            for (int place = 0; place < box.candidates; place++) {
                scoreApprovals(seated);
                int next = greatestOf(present & ~seated);
                order[place] = next;
                seated |= 1 << next;
            }
        }

        private void scoreApprovals(int seated) {
            Arrays.fill(score, 0);
            for (int kind = 0; kind < box.kinds; kind++) {
                int sharers = Integer.bitCount(box.approved[kind] & seated) + 1;
                long parts = (long) weight[kind] * (APPROVAL_PARTS / sharers);
                for (int c = 0; c < box.candidates; c++) {
                    if (has(box.approved[kind], c)) {
                        score[c] += parts;
                    }
                }
            }
        }

        /** After how many ballots the winner by most first places can't be caught by this candidate. */
        private int safeAgainst(int best, int other) {
            int needed = box.winsLot(best, other) ? 0 : 1;
            // The lead less the ballots that were not looked at: it never falls from one ballot to the next.
            int safety = -ballots;
            int seen = 0;
            for (int kind = 0; kind < box.kinds && safety < needed; kind++) {
                int first = box.soleTopOf(kind, present);
                int rise = first == best ? 2 : first == other ? 0 : 1;
                int more = weight[kind];
                if (rise > 0) {
                    more = Math.min(more, (needed - safety + rise - 1) / rise);
                }
                safety += rise * more;
                seen += more;
            }
            return seen;
        }
    }

    /** Looks for a ballot that gains something for those who cast it, though it isn't what they think. */
    private static final class FalseBallot {
        private final BallotBox box;
        private final Poll poll;
        private final int[] order = new int[MAX_LIARS];

        private FalseBallot(BallotBox itsBox, Poll itsPoll) {
            box = itsBox;
            poll = itsPoll;
        }

        /** The first kind that gains, or NONE; the order is then that of the false ballot. */
        private int findKind(int way) {
            poll.open(box.everybody());
            int present = poll.bestBy(way);
            if (present == NONE) {
                return NONE;
            }
            for (int kind = 0; kind < box.kinds; kind++) {
                int preferred = box.count[kind] > 0 ? aheadOf(kind, present) : 0;
                if (preferred != 0) {
                    poll.change(kind, -1);
                    if (findOrder(way, preferred)) {
                        return kind;
                    }
                    poll.change(kind, 1);
                }
            }
            return NONE;
        }

        private int aheadOf(int kind, int candidate) {
            int set = 0;
            int rank = box.rankOf(kind, candidate);
            for (int g = 0; g < rank; g++) {
                set |= box.group[kind][g];
            }
            return set;
        }

        private boolean findOrder(int way, int preferred) {
            for (int place = 0; place < MAX_LIARS; place++) {
                order[place] = place;
            }
            long orders = FACTORIAL[box.candidates];
            for (int i = 0; i < orders; i++) {
                writeTrial();
                poll.change(TRIAL, 1);
                int best = poll.bestBy(way);
                poll.change(TRIAL, -1);
                if (best != NONE && has(preferred, best)) {
                    return true;
                }
                goToNextOrder();
            }
            return false;
        }

        private void writeTrial() {
            box.clearTrial();
            for (int place = 0; place < box.candidates; place++) {
                box.rankOnTrial(order[place], true);
            }
            box.approved[TRIAL] = box.group[TRIAL][0];
        }

        private void goToNextOrder() {
            int last = box.candidates - 1;
            int pivot = last - 1;
            while (pivot >= 0 && order[pivot] > order[pivot + 1]) {
                pivot--;
            }
            if (pivot < 0) {
                return;
            }
            int greater = last;
            while (greater > pivot && order[greater] < order[pivot]) {
                greater--;
            }
            swap(pivot, greater);
            for (int i = pivot + 1, j = last; i < j; i++, j--) {
                swap(i, j);
            }
        }

        private void swap(int place, int other) {
            int kept = order[place];
            order[place] = order[other];
            order[other] = kept;
        }
    }

    /** Parties to whom seats are given: units in the house, or lists in an alliance. */
    private static final class Division {
        private int parties;
        private int given;
        private final int[] number = new int[MAX_LISTS];
        private final long[] votes = new long[MAX_LISTS];
        private final int[] lot = new int[MAX_LISTS];
        private final int[] seats = new int[MAX_LISTS];
        private final long[] remainder = new long[MAX_LISTS];
        // One more than seats() can give, since a loss is looked for in a house of one seat more.
        private final int[] order = new int[MAX_SEATS + 1];

        private void clear() {
            parties = 0;
            given = 0;
        }

        private void append(int itsNumber, long itsVotes, int itsLot) {
            if (parties < MAX_LISTS) {
                number[parties] = itsNumber;
                votes[parties] = itsVotes;
                lot[parties] = itsLot;
                seats[parties] = 0;
                parties++;
            }
        }

        private void give(int party) {
            seats[party]++;
            if (given < order.length) {
                order[given] = number[party];
                given++;
            }
        }

        private void distribute(int method, int wanted) {
            if (parties == 0) {
                return;
            }
            if (method == LARGEST_REMAINDERS) {
                distributeByRemainders(wanted);
                return;
            }
            for (int seat = 0; seat < wanted; seat++) {
                int best = 0;
                for (int party = 1; party < parties; party++) {
                    if (hasGreaterQuotient(party, best, method)) {
                        best = party;
                    }
                }
                give(best);
            }
        }

        private boolean hasGreaterQuotient(int party, int other, int method) {
            long own = votes[party] * divisor(method, seats[other]);
            long others = votes[other] * divisor(method, seats[party]);
            return own > others || own == others && winsTie(party, other);
        }

        private boolean winsTie(int party, int other) {
            if (votes[party] != votes[other]) {
                return votes[party] > votes[other];
            }
            return lot[party] < lot[other] || lot[party] == lot[other] && number[party] < number[other];
        }

        private long divisor(int method, int had) {
            switch (method) {
                case 0:
                    return had + 1;
                case 1:
                    return 2 * had + 1;
                case 2:
                    // In tenths, since the first one is 1.4.
                    return had == 0 ? 14 : 20 * had + 10;
                case 3:
                    return 3 * had + 1;
                default:
                    return had + 2;
            }
        }

        private void distributeByRemainders(int wanted) {
            long all = 0;
            for (int party = 0; party < parties; party++) {
                all += votes[party];
            }
            if (all == 0) {
                return;
            }
            int whole = 0;
            for (int party = 0; party < parties; party++) {
                int share = (int) (votes[party] * wanted / all);
                remainder[party] = votes[party] * wanted % all;
                for (int seat = 0; seat < share; seat++) {
                    give(party);
                }
                whole += share;
            }
            for (int seat = whole; seat < wanted; seat++) {
                giveToGreatestRemainder();
            }
        }

        private void giveToGreatestRemainder() {
            int best = 0;
            for (int party = 1; party < parties; party++) {
                if (remainder[party] > remainder[best]
                        || remainder[party] == remainder[best] && winsTie(party, best)) {
                    best = party;
                }
            }
            give(best);
            // Smaller than all others, so that nobody gets two of these seats.
            remainder[best] = -1;
        }
    }

    /** What a call of seats() gave, and what it gave it for. */
    private static final class KeptSeats {
        private int given;
        private boolean isAllied;
        private int lists;
        private final int[] order = new int[MAX_SEATS];
        private final int[] got = new int[MAX_LISTS];
        private final int[] votes = new int[MAX_LISTS];
        private final int[] alliance = new int[MAX_LISTS];
    }

    /** The lists, and the seats that they get. */
    private static final class Lists {
        private int size;
        private final int[] votes = new int[MAX_LISTS];
        private final int[] alliance = new int[MAX_LISTS];
        private final int[] lot = new int[MAX_LISTS];
        private final Division units = new Division();
        private final Division inside = new Division();
        private boolean isAllied;
        private final int[] got = new int[MAX_LISTS];
        private final int[] gotBefore = new int[MAX_LISTS];
        private final KeptSeats[] kept = new KeptSeats[KEPT];
        private int newest;

        private Lists() {
            for (int i = 0; i < KEPT; i++) {
                kept[i] = new KeptSeats();
            }
        }

        private int append(int itsVotes) {
            int number = size;
            votes[number] = itsVotes;
            alliance[number] = 0;
            lot[number] = number;
            size++;
            return number;
        }

        private KeptSeats latest() {
            return kept[newest];
        }

        private boolean isSameUnit(int list, int other) {
            return list == other || alliance[list] > 0 && alliance[list] == alliance[other];
        }

        /** Distributes seats to all lists; answers how many units take part. */
        private int spread(int method, int wanted, int threshold) {
            long all = 0;
            for (int list = 0; list < size; list++) {
                all += votes[list];
            }
            units.clear();
            isAllied = false;
            for (int list = 0; list < size; list++) {
                if (isFirstOfUnit(list)) {
                    appendUnit(list, threshold * all);
                }
            }
            units.distribute(method, wanted);
            Arrays.fill(got, 0);
            for (int unit = 0; unit < units.parties; unit++) {
                spreadInside(units.number[unit], method, units.seats[unit]);
            }
            return units.parties;
        }

        private boolean isFirstOfUnit(int list) {
            for (int other = 0; other < list; other++) {
                if (isSameUnit(list, other)) {
                    return false;
                }
            }
            return true;
        }

        private void appendUnit(int first, long hurdle) {
            long sum = 0;
            int members = 0;
            for (int list = first; list < size; list++) {
                if (isSameUnit(first, list)) {
                    sum += votes[list];
                    members++;
                }
            }
            if (sum > 0 && sum * 100 >= hurdle) {
                units.append(first, sum, lot[first]);
                isAllied = isAllied || members > 1;
            }
        }

        private void spreadInside(int first, int method, int wanted) {
            inside.clear();
            for (int list = first; list < size; list++) {
                if (isSameUnit(first, list) && votes[list] > 0) {
                    inside.append(list, votes[list], lot[list]);
                }
            }
            inside.distribute(method, wanted);
            for (int party = 0; party < inside.parties; party++) {
                got[inside.number[party]] = inside.seats[party];
            }
        }

        private void keepSpread() {
            newest = (newest + 1) % KEPT;
            KeptSeats next = kept[newest];
            next.given = Math.min(units.given, MAX_SEATS);
            next.isAllied = isAllied;
            next.lists = size;
            System.arraycopy(units.order, 0, next.order, 0, next.given);
            System.arraycopy(got, 0, next.got, 0, MAX_LISTS);
            System.arraycopy(votes, 0, next.votes, 0, MAX_LISTS);
            System.arraycopy(alliance, 0, next.alliance, 0, MAX_LISTS);
        }

        private int firstLoss(int most) {
            spread(LARGEST_REMAINDERS, 1, 0);
            for (int house = 1; house <= most; house++) {
                System.arraycopy(got, 0, gotBefore, 0, MAX_LISTS);
                spread(LARGEST_REMAINDERS, house + 1, 0);
                for (int list = 0; list < size; list++) {
                    if (gotBefore[list] > got[list]) {
                        return house;
                    }
                }
            }
            return NONE;
        }

        private void takeChangeBack(int what, int where, int before) {
            switch (what) {
                case LIST_CAME:
                    size = where;
                    break;
                case LIST_LOT_SET:
                    lot[where] = before;
                    break;
                case VOTES_SET:
                    votes[where] = before;
                    break;
                case ALLIANCE_SET:
                    alliance[where] = before;
                    break;
                case SEATS_GIVEN:
                    newest = (newest + KEPT - 1) % KEPT;
                    break;
                default:
                    break;
            }
        }

        /** Some list has more votes and fewer seats than another one. */
        private boolean isUnjust() {
            int[] seats = latest().got;
            for (int list = 0; list < size; list++) {
                for (int other = 0; other < size; other++) {
                    if (votes[list] > votes[other] && seats[list] < seats[other] && isAsThen(list)
                            && isAsThen(other)) {
                        return true;
                    }
                }
            }
            return false;
        }

        private boolean isAsThen(int list) {
            KeptSeats then = latest();
            return list < then.lists && alliance[list] == 0 && then.alliance[list] == 0
                && votes[list] == then.votes[list];
        }
    }

    /** What a count found, and the ballots that it counted. */
    private static final class Count {
        private int quota;
        private int candidates;
        private int kinds;
        private int ballots;
        private int elections;
        private int exclusions;
        private final int[] ballotsOfKind = new int[MAX_KINDS];
        private final int[] elected = new int[MAX_WINNERS];
        private final int[] excluded = new int[MAX_CANDIDATES];
        private final int[] limb = new int[MOMENTS * NUMBERS_OF_MOMENT * LIMBS];

        private int placeOf(int moment, int number) {
            return (moment * NUMBERS_OF_MOMENT + number) * LIMBS;
        }
    }

    /** Counts by the transferable vote. All weights and piles have one common denominator, which grows. */
    private static final class Counting {
        private final BallotBox box;
        private final Count[] kept = new Count[KEPT];
        private int newest;
        private int hopeful;
        private final Natural[] weight = new Natural[MAX_KINDS * MAX_CANDIDATES];
        private final Natural[] pile = new Natural[PILES];
        private final Natural common = new Natural();
        private final Natural amount = new Natural();
        private final Natural held = new Natural();
        private final Natural numerator = new Natural();
        private final Natural denominator = new Natural();
        private final Natural greater = new Natural();
        private final Natural smaller = new Natural();
        private final Natural quotient = new Natural();
        private final Natural scratch = new Natural();

        private Counting(BallotBox itsBox) {
            box = itsBox;
            for (int i = 0; i < PILES; i++) {
                pile[i] = new Natural();
            }
        }

        /** The latest count, null if there was none. */
        private Count latest() {
            return kept[newest];
        }

        private void goBack() {
            newest = (newest + KEPT - 1) % KEPT;
        }

        private Natural weightOf(int kind, int candidate) {
            int place = kind * MAX_CANDIDATES + candidate;
            if (weight[place] == null) {
                weight[place] = new Natural();
            }
            return weight[place];
        }

        /** Holds a count and keeps it; answers how many were elected. */
        private int holdCount(int seats) {
            newest = (newest + 1) % KEPT;
            if (kept[newest] == null) {
                kept[newest] = new Count();
            }
            Count count = kept[newest];
            start(count, seats);
            keepMoment(count);
            for (int step = 0; step < box.candidates; step++) {
                int open = seats - count.elections;
                if (open > 0 && hopeful != 0) {
                    int best = greatestPile();
                    if (takeStep(count, best, open)) {
                        passSurplus(best);
                    }
                    keepMoment(count);
                }
            }
            return count.elections;
        }

        private void start(Count count, int seats) {
            count.candidates = box.candidates;
            count.kinds = box.kinds;
            count.ballots = box.ballotsOf(box.count, box.kinds);
            count.quota = count.ballots / (seats + 1) + 1;
            count.elections = 0;
            count.exclusions = 0;
            System.arraycopy(box.count, 0, count.ballotsOfKind, 0, MAX_KINDS);
            hopeful = box.everybody();
            for (int i = 0; i < PILES; i++) {
                pile[i].become(0);
            }
            // However often a weight is parted, the parts' numbers multiplied divide this one.
            long parts = FACTORIAL[box.candidates];
            common.become(parts);
            for (int kind = 0; kind < box.kinds; kind++) {
                for (int c = 0; c < box.candidates; c++) {
                    weightOf(kind, c).become(0);
                }
                amount.become(box.count[kind] * parts);
                passOn(kind);
            }
        }

        /** Passes the amount on, which is of this kind. */
        private void passOn(int kind) {
            int takers = box.topOf(kind, hopeful);
            if (takers == 0) {
                pile[EXHAUSTED].add(amount);
                return;
            }
            amount.divideSmall(Integer.bitCount(takers));
            for (int c = 0; c < box.candidates; c++) {
                if (has(takers, c)) {
                    weightOf(kind, c).add(amount);
                    pile[c].add(amount);
                }
            }
        }

        private void keepMoment(Count count) {
            int moment = count.elections + count.exclusions;
            for (int i = 0; i < PILES; i++) {
                pile[i].store(count.limb, count.placeOf(moment, i));
            }
            common.store(count.limb, count.placeOf(moment, PILES));
        }

        /** Elects the best one or excludes the last one; answers whether the best one has a surplus to pass on. */
        private boolean takeStep(Count count, int best, int open) {
            if (Integer.bitCount(hopeful) <= open) {
                elect(count, best);
                return false;
            }
            held.copyFrom(common);
            held.multiplySmall(count.quota);
            int order = pile[best].compareWith(held);
            if (order >= 0) {
                elect(count, best);
            } else {
                exclude(count, smallestPile());
            }
            return order > 0;
        }

        private int greatestPile() {
            int best = NONE;
            for (int c = 0; c < box.candidates; c++) {
                if (has(hopeful, c) && (best == NONE || isAhead(c, best))) {
                    best = c;
                }
            }
            return best;
        }

        private int smallestPile() {
            int worst = NONE;
            for (int c = 0; c < box.candidates; c++) {
                if (has(hopeful, c) && (worst == NONE || isAhead(worst, c))) {
                    worst = c;
                }
            }
            return worst;
        }

        private boolean isAhead(int candidate, int other) {
            int order = pile[candidate].compareWith(pile[other]);
            return order > 0 || order == 0 && box.winsLot(candidate, other);
        }

        private void elect(Count count, int candidate) {
            hopeful &= ~(1 << candidate);
            if (count.elections < MAX_WINNERS) {
                count.elected[count.elections] = candidate;
                count.elections++;
            }
        }

        private void exclude(Count count, int candidate) {
            hopeful &= ~(1 << candidate);
            if (count.exclusions < MAX_CANDIDATES) {
                count.excluded[count.exclusions] = candidate;
                count.exclusions++;
            }
            pile[candidate].become(0);
            for (int kind = 0; kind < count.kinds; kind++) {
                amount.copyFrom(weightOf(kind, candidate));
                passOn(kind);
            }
        }

        /** Passes on what the elected candidate has above the quota, which is in the number held. */
        private void passSurplus(int candidate) {
            numerator.copyFrom(pile[candidate]);
            numerator.subtract(held);
            denominator.copyFrom(pile[candidate]);
            reduce();
            pile[candidate].copyFrom(held);
            multiplyAll(denominator);
            for (int kind = 0; kind < box.kinds; kind++) {
                amount.multiply(weightOf(kind, candidate), numerator);
                passOn(kind);
            }
        }

        /** Makes the common denominator greater; the weights of those who are not hopeful do not matter. */
        private void multiplyAll(Natural factor) {
            multiply(common, factor);
            for (int i = 0; i < PILES; i++) {
                multiply(pile[i], factor);
            }
            for (int kind = 0; kind < box.kinds; kind++) {
                for (int c = 0; c < box.candidates; c++) {
                    if (has(hopeful, c)) {
                        multiply(weightOf(kind, c), factor);
                    }
                }
            }
        }

        private void multiply(Natural number, Natural factor) {
            if (number.size > 0) {
                scratch.multiply(number, factor);
                number.copyFrom(scratch);
            }
        }

        private void loadPile(Count count, int moment, int number) {
            numerator.load(count.limb, count.placeOf(moment, number));
            denominator.load(count.limb, count.placeOf(moment, PILES));
        }

        /** Brings numerator and denominator to lowest terms. */
        private void reduce() {
            Natural divided = greater;
            Natural divisor = smaller;
            divided.copyFrom(denominator);
            divisor.copyFrom(numerator);
            for (int i = 0; i < MAX_DIVISIONS && divisor.size > 0; i++) {
                divided.divide(divisor, quotient, scratch);
                Natural rest = divided;
                divided = divisor;
                divisor = rest;
            }
            if (!divided.isOne()) {
                numerator.divide(divided, quotient, scratch);
                numerator.copyFrom(quotient);
                denominator.divide(divided, quotient, scratch);
                denominator.copyFrom(quotient);
            }
        }

        /** The steps after which piles and what is exhausted are not together all ballots of the count. */
        private int unbalancedSteps(Count count) {
            int wrong = 0;
            for (int moment = 1; moment <= count.elections + count.exclusions; moment++) {
                amount.become(0);
                for (int i = 0; i < PILES; i++) {
                    loadPile(count, moment, i);
                    amount.add(numerator);
                }
                denominator.multiplySmall(count.ballots);
                if (amount.compareWith(denominator) != 0) {
                    wrong++;
                }
            }
            return wrong;
        }
    }

    /** A whole number from 0 on, in limbs of 30 bits, the lowest one first. */
    private static final class Natural {
        private final int[] limb = new int[LIMBS];
        private int size;

        private void become(long value) {
            long rest = value;
            size = 0;
            for (int i = 0; i < LIMBS && rest > 0; i++) {
                limb[i] = (int) (rest & LIMB_MASK);
                rest >>= LIMB_BITS;
                size++;
            }
        }

        private void copyFrom(Natural other) {
            System.arraycopy(other.limb, 0, limb, 0, other.size);
            size = other.size;
        }

        private void store(int[] row, int place) {
            for (int i = 0; i < LIMBS; i++) {
                row[place + i] = limbAt(i);
            }
        }

        private void load(int[] row, int place) {
            System.arraycopy(row, place, limb, 0, LIMBS);
            trimTo(LIMBS);
        }

        /** Sets the size to at most this one, without leading zeros. */
        private void trimTo(int most) {
            size = Math.min(most, LIMBS);
            while (size > 0 && limb[size - 1] == 0) {
                size--;
            }
        }

        private int limbAt(int i) {
            return i < size ? limb[i] : 0;
        }

        private boolean isOne() {
            return size == 1 && limb[0] == 1;
        }

        private int compareWith(Natural other) {
            for (int i = Math.max(size, other.size) - 1; i >= 0; i--) {
                if (limbAt(i) != other.limbAt(i)) {
                    return limbAt(i) < other.limbAt(i) ? -1 : 1;
                }
            }
            return 0;
        }

        private void add(Natural other) {
            int most = Math.min(Math.max(size, other.size) + 1, LIMBS);
            int carry = 0;
            for (int i = 0; i < most; i++) {
                int sum = limbAt(i) + other.limbAt(i) + carry;
                limb[i] = sum & LIMB_MASK;
                carry = sum >> LIMB_BITS;
            }
            trimTo(most);
        }

        /** Subtracts a number that is not greater. */
        private void subtract(Natural other) {
            int borrow = 0;
            for (int i = 0; i < size; i++) {
                int rest = limb[i] - other.limbAt(i) + borrow;
                limb[i] = rest & LIMB_MASK;
                borrow = rest >> LIMB_BITS;
            }
            trimTo(size);
        }

        private void multiplySmall(int factor) {
            int most = Math.min(size + 2, LIMBS);
            long carry = 0;
            for (int i = 0; i < most; i++) {
                carry += (long) limbAt(i) * factor;
                limb[i] = (int) (carry & LIMB_MASK);
                carry >>= LIMB_BITS;
            }
            trimTo(most);
        }

        /** Divides by a number above 0; answers the remainder. */
        private int divideSmall(int divisor) {
            if (divisor <= 0) {
                return 0;
            }
            long rest = 0;
            for (int i = size - 1; i >= 0; i--) {
                long value = (rest << LIMB_BITS) + limb[i];
                limb[i] = (int) (value / divisor);
                rest = value % divisor;
            }
            trimTo(size);
            return (int) rest;
        }

        /** Becomes the product of two other numbers. */
        private void multiply(Natural one, Natural other) {
            Arrays.fill(limb, 0);
            for (int i = 0; i < one.size; i++) {
                long carry = 0;
                for (int j = 0; j <= other.size && i + j < LIMBS; j++) {
                    carry += (long) one.limb[i] * other.limbAt(j) + limb[i + j];
                    limb[i + j] = (int) (carry & LIMB_MASK);
                    carry >>= LIMB_BITS;
                }
            }
            trimTo(LIMBS);
        }

        /** Becomes the remainder of the division by another number, and hands out the quotient. */
        private void divide(Natural divisor, Natural quotient, Natural shifted) {
            if (divisor.size <= 1) {
                quotient.copyFrom(this);
                become(divisor.size == 0 ? 0 : quotient.divideSmall(divisor.limb[0]));
                return;
            }
            // Digits are guessed well only if the highest limb of the divisor has its highest bit set.
            int shift = 0;
            while (shift < LIMB_BITS && divisor.limb[divisor.size - 1] << shift >> LIMB_BITS - 1 == 0) {
                shift++;
            }
            shifted.copyFrom(divisor);
            shifted.multiplySmall(1 << shift);
            multiplySmall(1 << shift);
            for (int i = size; i < LIMBS; i++) {
                limb[i] = 0;
            }
            Arrays.fill(quotient.limb, 0);
            for (int place = Math.min(size, LIMBS - 1) - shifted.size; place >= 0; place--) {
                quotient.limb[place] = takeMultiple(shifted, place);
            }
            quotient.trimTo(LIMBS);
            trimTo(LIMBS);
            divideSmall(1 << shift);
        }

        /** Subtracts the greatest multiple of the divisor, moved up to a place, and answers which one it is. */
        private int takeMultiple(Natural divisor, int place) {
            int top = place + divisor.size;
            long high = divisor.limb[divisor.size - 1];
            if (high == 0) {
                return 0;
            }
            long value = ((long) limb[top] << LIMB_BITS) + limb[top - 1];
            long guess = Math.min(value / high, LIMB_MASK);
            long rest = value - guess * high;
            // A guess is too great by 2 at most; the second limb tells nearly always.
            for (int i = 0; i < 2 && rest <= LIMB_MASK; i++) {
                if (guess * divisor.limb[divisor.size - 2] > (rest << LIMB_BITS) + limb[top - 2]) {
                    guess--;
                    rest += high;
                }
            }
            if (subtractMultiple(divisor, place, guess) < 0) {
                guess--;
                subtractMultiple(divisor, place, -1);
            }
            return (int) guess;
        }

        /** Answers what is missed above the top, which is below 0 if too much was subtracted. */
        private long subtractMultiple(Natural divisor, int place, long factor) {
            long rest = 0;
            for (int i = 0; i <= divisor.size; i++) {
                rest += limb[place + i] - (i < divisor.size ? factor * divisor.limb[i] : 0);
                limb[place + i] = (int) (rest & LIMB_MASK);
                rest >>= LIMB_BITS;
            }
            return rest;
        }
    }

    /** The row of wards, and how they are divided into districts. */
    private static final class Wards {
        private int size;
        private final int[] heads = new int[MAX_WARDS];
        private final int[][] votes = new int[2][MAX_WARDS];
        // For each number of districts and each ward: the greatest district if the wards from it on are divided.
        private final int[][] greatest = new int[MAX_WARDS + 1][MAX_WARDS];
        private final int[] end = new int[MAX_WARDS];

        private int append(int itsHeads, int votesA, int votesB) {
            int number = size;
            heads[number] = itsHeads;
            votes[0][number] = votesA;
            votes[1][number] = votesB;
            size++;
            return number;
        }

        /** Finds the last wards of the districts; answers the greatest number of heads. */
        private int divide(int districts) {
            for (int parts = 1; parts <= districts; parts++) {
                for (int first = 0; first <= size - parts; first++) {
                    greatest[parts][first] = greatestOf(parts, first);
                }
            }
            int most = greatest[districts][0];
            int first = 0;
            for (int district = 0; district < districts; district++) {
                end[district] = firstEnd(first, districts - district, most);
                first = end[district] + 1;
            }
            return most;
        }

        private int greatestOf(int parts, int first) {
            int least = TOO_MANY_HEADS;
            int sum = 0;
            for (int last = first; last <= size - parts; last++) {
                sum += heads[last];
                least = Math.min(least, Math.max(sum, greatestBehind(last, parts)));
            }
            return least;
        }

        /** The greatest district behind a ward at which the first of these parts ends. */
        private int greatestBehind(int last, int parts) {
            if (last + 1 < size) {
                return parts > 1 ? greatest[parts - 1][last + 1] : TOO_MANY_HEADS;
            }
            return 0;
        }

        private int firstEnd(int first, int parts, int most) {
            int last = first;
            while (last < size - parts && greatestBehind(last, parts) > most) {
                last++;
            }
            return last;
        }

        private int votesIn(int district, int party) {
            int sum = 0;
            for (int ward = district == 0 ? 0 : end[district - 1] + 1; ward <= end[district]; ward++) {
                sum += votes[party][ward];
            }
            return sum;
        }
    }

    /** The members of the council; a set of members is a number with bit i for the member i. */
    private static final class Council {
        private int size;
        private int quota = 1;
        private final int[] weight = new int[MAX_MEMBERS];
        private final int[] sum = new int[1 << MAX_MEMBERS];

        private int append(int itsWeight) {
            int number = size;
            weight[number] = itsWeight;
            size++;
            return number;
        }

        /** Finds the weights together of each set. */
        private void findSums() {
            for (int member = 0; member < size; member++) {
                for (int set = 0; set < 1 << member; set++) {
                    sum[set | 1 << member] = sum[set] + weight[member];
                }
            }
        }

        private boolean isSwung(int set, int member) {
            return sum[set] < quota && sum[set] + weight[member] >= quota && !has(set, member);
        }

        private int setsSwungBy(int member) {
            int sets = 0;
            for (int set = 0; set < 1 << size; set++) {
                if (isSwung(set, member)) {
                    sets++;
                }
            }
            return sets;
        }

        private long ordersTurnedBy(int member) {
            long orders = 0;
            for (int set = 0; set < 1 << size; set++) {
                if (isSwung(set, member)) {
                    int ahead = Integer.bitCount(set);
                    orders += FACTORIAL[ahead] * FACTORIAL[size - 1 - ahead];
                }
            }
            return orders;
        }

        /** The orders that the members turn are together neither all orders nor none. */
        private boolean isOrderMissed() {
            findSums();
            long orders = 0;
            for (int member = 0; member < size; member++) {
                orders += ordersTurnedBy(member);
            }
            return orders != 0 && orders != FACTORIAL[size];
        }
    }
}
