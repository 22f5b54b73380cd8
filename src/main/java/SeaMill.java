/**
 * A tide mill: a pond, stones, sacks of farmers, pledges, and orders as texts.
 * The promises that it keeps are numbered in ../shared/DOC.md.
 */
public final class SeaMill {
    /** An argument is out of its range, or there is no such kind, farmer or sack. */
    public static final int INVALID_ARGUMENT = -1000001;
    /** The call is not possible in the present state. */
    public static final int NOT_POSSIBLE = -1000002;
    /** A fixed limit has been reached. */
    public static final int LIMIT_REACHED = -1000003;
    /** There is no such value. */
    public static final int NOT_FOUND = -1000004;

    private static final int NONE = -1;
    private static final int ALL = -1;

    private static final int KIND_LIMIT = 6;
    private static final int FARMER_LIMIT = 8;
    private static final int SACK_LIMIT = 24;
    private static final int TEXT_LIMIT = 60;
    private static final int HISTORY_LIMIT = 4;
    private static final int TIME_LIMIT = 10000;
    private static final int FORESIGHT = 1000;
    private static final int SLUICES = 4;
    private static final int OPENINGS = 4;
    private static final int GREATEST_SACK = 200;
    private static final int GREATEST_PASS = 200;
    private static final int GREATEST_PENCE = 2147483647;
    private static final int STEPS_OF_DAY = 96;

    private static final int AREA = 0;
    private static final int LOW_WATER = 1;
    private static final int RISE = 2;
    private static final int SPRING = 3;
    private static final int PERIOD = 4;
    private static final int FLOW = 5;
    private static final int LEAST_HEAD = 6;
    private static final int GATE_WATER = 7;
    private static final int TOLL_PERCENT = 8;
    private static final int INTEREST = 9;
    private static final int PLEDGE_DAYS = 10;
    private static final int SHARE_LENT = 11;
    private static final int QUEUE_RULE = 12;
    private static final int SETTINGS = 13;
    private static final int[] LEAST_SETTINGS = {10, 0, 0, 0, 4, 0, 0, 0, 0, 0, 1, 1, 0};
    private static final int[] GREATEST_SETTINGS =
        {1000, 100, 300, 100, 100, 200, 100, 2000, 50, 100, 60, 100, 3};
    private static final int[] FIRST_SETTINGS = {100, 20, 100, 20, 50, 60, 10, 200, 10, 5, 10, 50, 0};
    private static final int[] FIRST_LEAKS = {2, 1, 3, 0};

    /** What sackOf() tells of a sack, by number. */
    private static final int POUNDS = 2;
    private static final int GRAIN = 4;
    private static final int FLOUR = 5;
    private static final int TOLL = 6;
    private static final int FALLEN = 9;
    private static final int FETCHED_POUNDS = 10;
    private static final int PLACE = 11;

    /** The stages of a sack. */
    private static final int WAITING = 0;
    private static final int ON_STONES = 1;
    private static final int GROUND = 2;
    private static final int FETCHED = 3;

    /** The reasons of a fault in the text. */
    private static final int NO_FAULT = 0;
    private static final int NOT_OF_FORM = 1;
    private static final int NO_SUCH = 2;
    private static final int REFUSED = 3;

    private final Mill mill = new Mill();
    /** Foretelling and the looking through of texts are tried on this one, so that no call makes another. */
    private final Mill trial = new Mill();
    private final History history = new History();
    private final Orders orders = new Orders();

    public SeaMill() {
    }

    // ---- settings

    public int set(int what, int value) {
        history.hold(mill);
        return history.keepIfDone(mill.changeSetting(what, value));
    }

    public int leak(int sluice, int leak) {
        history.hold(mill);
        return history.keepIfDone(mill.changeLeak(sluice, leak));
    }

    public int lock(int locked) {
        history.hold(mill);
        return history.keepIfDone(mill.changeLock(locked));
    }

    public int gate(int opening) {
        history.hold(mill);
        return history.keepIfDone(mill.changeOpening(opening));
    }

    // ---- grain

    public int kind(int hardness, int dust, int price) {
        history.hold(mill);
        return history.keepIfDone(mill.addKind(hardness, dust, price));
    }

    public int farmer() {
        history.hold(mill);
        return history.keepIfDone(mill.addFarmer());
    }

    public int bring(int farmer, int kind, int pounds) {
        history.hold(mill);
        return history.keepIfDone(mill.addSack(farmer, kind, pounds));
    }

    public int withdraw(int sack) {
        history.hold(mill);
        return history.keepIfDone(mill.withdrawSack(sack));
    }

    public int fetch(int sack) {
        history.hold(mill);
        return history.keepIfDone(mill.fetchSack(sack));
    }

    public int kindOf(int kind, int what) {
        if (!mill.hasKind(kind) || !within(what, 0, 5)) {
            return INVALID_ARGUMENT;
        }
        return mill.tellKind(kind, what);
    }

    public int farmerOf(int farmer, int what) {
        if (!mill.hasFarmer(farmer) || !within(what, 0, 5)) {
            return INVALID_ARGUMENT;
        }
        return mill.tellFarmer(farmer, what);
    }

    public int sackOf(int sack, int what) {
        if (!mill.hasSack(sack) || !within(what, 0, PLACE)) {
            return INVALID_ARGUMENT;
        }
        return what == PLACE ? mill.placeInQueue(sack) : mill.sacks[sack].tell(what);
    }

    public int queueAt(int index) {
        if (index < 0) {
            return INVALID_ARGUMENT;
        }
        return mill.sackAtPlace(index);
    }

    public int account(int farmer, int kind, int what) {
        boolean known = (farmer == ALL || mill.hasFarmer(farmer)) && (kind == ALL || mill.hasKind(kind));
        if (!known || !(what == POUNDS || within(what, GRAIN, FETCHED_POUNDS))) {
            return INVALID_ARGUMENT;
        }
        return mill.sumOf(farmer, kind, what);
    }

    // ---- money

    public int earn(int farmer, int pence) {
        history.hold(mill);
        return history.keepIfDone(mill.addPence(farmer, pence));
    }

    public int pledge(int sack, int pounds) {
        history.hold(mill);
        return history.keepIfDone(mill.putInPledge(sack, pounds));
    }

    public int owed(int sack) {
        if (!mill.hasSack(sack)) {
            return INVALID_ARGUMENT;
        }
        return mill.sacks[sack].hasPledge() ? mill.debtOf(mill.sacks[sack]) : NOT_FOUND;
    }

    public int redeem(int sack) {
        history.hold(mill);
        return history.keepIfDone(mill.redeemPledge(sack));
    }

    public int pledgeAt(int index, int what) {
        if (index < 0 || !within(what, 0, 4)) {
            return INVALID_ARGUMENT;
        }
        int sack = mill.sackOfPledge(index);
        return sack == NONE ? NOT_FOUND : mill.tellPledge(sack, what);
    }

    // ---- time and water

    public int pass(int steps) {
        history.hold(mill);
        return history.keepIfDone(mill.letPass(steps));
    }

    public int seaIn(int steps) {
        if (!within(steps, 0, 5000)) {
            return INVALID_ARGUMENT;
        }
        return mill.seaAt(mill.time + steps);
    }

    public int nextHigh() {
        return mill.stepsToHigh();
    }

    public int pond(int what) {
        if (!within(what, 0, 14)) {
            return INVALID_ARGUMENT;
        }
        return mill.tellPond(what);
    }

    public int foresee(int sack) {
        if (!mill.hasSack(sack)) {
            return INVALID_ARGUMENT;
        }
        if (mill.sacks[sack].stage >= GROUND) {
            return NOT_POSSIBLE;
        }
        trial.copyFrom(mill);
        for (int steps = 1; steps <= FORESIGHT; steps++) {
            trial.step();
            if (trial.sacks[sack].stage == GROUND) {
                return steps;
            }
        }
        return NOT_FOUND;
    }

    public int bestGate(int steps) {
        if (!within(steps, 1, GREATEST_PASS)) {
            return INVALID_ARGUMENT;
        }
        int best = 0;
        int most = NONE;
        for (int opening = 0; opening < OPENINGS; opening++) {
            int ground = groundBy(opening, steps);
            if (ground > most) {
                most = ground;
                best = opening;
            }
        }
        return best;
    }

    public int count(int what) {
        if (within(what, 20, 20 + SETTINGS - 1)) {
            return mill.settings[what - 20];
        }
        switch (what) {
            case 9:
                return history.size;
            case 10:
                return orders.length;
            default:
                return mill.countOf(what);
        }
    }

    public int undo() {
        return history.restore(mill);
    }

    // ---- texts

    public int type(int character) {
        if (!within(character, 32, 126)) {
            return INVALID_ARGUMENT;
        }
        return orders.append((char) character);
    }

    public int clearText() {
        return orders.empty();
    }

    public int fault(int what) {
        if (!within(what, 0, 1)) {
            return INVALID_ARGUMENT;
        }
        trial.copyFrom(mill);
        orders.doAll(trial);
        if (orders.reason == NO_FAULT) {
            return NOT_FOUND;
        }
        return what == 0 ? orders.start : orders.reason;
    }

    public int play() {
        trial.copyFrom(mill);
        orders.doAll(trial);
        if (orders.reason != NO_FAULT) {
            return NOT_POSSIBLE;
        }
        history.hold(mill);
        mill.copyFrom(trial);
        return history.keepIfDone(orders.done);
    }

    /** Foretells the pounds that are ground with an opening in some steps. */
    private int groundBy(int opening, int steps) {
        trial.copyFrom(mill);
        trial.opening = opening;
        for (int i = 0; i < steps; i++) {
            trial.step();
        }
        return trial.ground - mill.ground;
    }

    private static boolean within(int number, int least, int greatest) {
        return number >= least && number <= greatest;
    }

    /** Divides by a number that is above 0 in every mill; the test keeps the machine from throwing. */
    private static int quotient(int number, int divisor) {
        return divisor > 0 ? number / divisor : 0;
    }

    private static final class Kind {
        int hardness;
        int dustPercent;
        int price;

        void takeFrom(Kind other) {
            hardness = other.hardness;
            dustPercent = other.dustPercent;
            price = other.price;
        }
    }

    private static final class Farmer {
        int purse;
        /** How many sacks have come on the stones. */
        int turns;

        void takeFrom(Farmer other) {
            purse = other.purse;
            turns = other.turns;
        }
    }

    private static final class Sack {
        int farmer;
        int kind;
        int hardness;
        int dustPercent;
        int price;
        int pounds;
        int stage;
        int ground;
        int tollPercent;
        int toll;
        int dust;
        int pledged;
        int lent;
        int pledgeDay;
        int lastDay;
        int fallen;
        int fetched;

        void takeFrom(Sack other) {
            farmer = other.farmer;
            kind = other.kind;
            hardness = other.hardness;
            dustPercent = other.dustPercent;
            price = other.price;
            pounds = other.pounds;
            stage = other.stage;
            ground = other.ground;
            tollPercent = other.tollPercent;
            toll = other.toll;
            dust = other.dust;
            pledged = other.pledged;
            lent = other.lent;
            pledgeDay = other.pledgeDay;
            lastDay = other.lastDay;
            fallen = other.fallen;
            fetched = other.fetched;
        }

        /** Makes this a sack that waits; what an undone sack left in it is wiped out. */
        void begin(int ofFarmer, int ofKind, Kind grainKind, int poundsBrought) {
            farmer = ofFarmer;
            kind = ofKind;
            hardness = grainKind.hardness;
            dustPercent = grainKind.dustPercent;
            price = grainKind.price;
            pounds = poundsBrought;
            stage = WAITING;
            ground = 0;
            tollPercent = 0;
            toll = 0;
            dust = 0;
            endPledge();
            fallen = 0;
            fetched = 0;
        }

        void addGround(int more) {
            ground += more;
            toll = ground * tollPercent / 100;
            dust = (ground - toll) * dustPercent / 100;
            if (ground >= pounds) {
                stage = GROUND;
            }
        }

        void endPledge() {
            pledged = 0;
            lent = 0;
            pledgeDay = 0;
            lastDay = 0;
        }

        void fall() {
            fallen += pledged;
            endPledge();
        }

        boolean hasPledge() {
            return pledged > 0;
        }

        int grain() {
            return stage == FETCHED ? 0 : pounds - ground;
        }

        int flour() {
            return stage == FETCHED ? 0 : ground - toll - dust - pledged - fallen;
        }

        boolean isOf(int someFarmer, int someKind) {
            return (someFarmer == ALL || someFarmer == farmer) && (someKind == ALL || someKind == kind);
        }

        /** Tells what sackOf() promises, but for the place in the queue. */
        int tell(int what) {
            switch (what) {
                case 0:
                    return farmer;
                case 1:
                    return kind;
                case POUNDS:
                    return pounds;
                case 3:
                    return stage;
                case GRAIN:
                    return grain();
                case FLOUR:
                    return flour();
                case TOLL:
                    return toll;
                case 7:
                    return dust;
                case 8:
                    return pledged;
                case FALLEN:
                    return fallen;
                default:
                    return fetched;
            }
        }
    }

    /** Everything but the text and the history. */
    private static final class Mill {
        final int[] settings = FIRST_SETTINGS.clone();
        final int[] leaks = FIRST_LEAKS.clone();
        final Kind[] kinds = new Kind[KIND_LIMIT];
        final Farmer[] farmers = new Farmer[FARMER_LIMIT];
        final Sack[] sacks = new Sack[SACK_LIMIT];
        int kindCount;
        int farmerCount;
        int sackCount;
        int time;
        int volume;
        int locked;
        int opening;
        int sackOnStones = NONE;
        int latestKind = NONE;
        int flowedIn;
        int leakedOut;
        int used;
        int ground;

        Mill() {
            for (int i = 0; i < KIND_LIMIT; i++) {
                kinds[i] = new Kind();
            }
            for (int i = 0; i < FARMER_LIMIT; i++) {
                farmers[i] = new Farmer();
            }
            for (int i = 0; i < SACK_LIMIT; i++) {
                sacks[i] = new Sack();
            }
        }

        void copyFrom(Mill other) {
            System.arraycopy(other.settings, 0, settings, 0, SETTINGS);
            System.arraycopy(other.leaks, 0, leaks, 0, SLUICES);
            copyGrainFrom(other);
            time = other.time;
            volume = other.volume;
            locked = other.locked;
            opening = other.opening;
            sackOnStones = other.sackOnStones;
            latestKind = other.latestKind;
            flowedIn = other.flowedIn;
            leakedOut = other.leakedOut;
            used = other.used;
            ground = other.ground;
        }

        private void copyGrainFrom(Mill other) {
            kindCount = other.kindCount;
            farmerCount = other.farmerCount;
            sackCount = other.sackCount;
            for (int i = 0; i < kindCount; i++) {
                kinds[i].takeFrom(other.kinds[i]);
            }
            for (int i = 0; i < farmerCount; i++) {
                farmers[i].takeFrom(other.farmers[i]);
            }
            for (int i = 0; i < sackCount; i++) {
                sacks[i].takeFrom(other.sacks[i]);
            }
        }

        boolean hasKind(int number) {
            return number >= 0 && number < kindCount;
        }

        boolean hasFarmer(int number) {
            return number >= 0 && number < farmerCount;
        }

        boolean hasSack(int number) {
            return number >= 0 && number < sackCount;
        }

        // ---- settings

        int changeSetting(int what, int value) {
            if (!within(what, 0, SETTINGS - 1) || !within(value, LEAST_SETTINGS[what], GREATEST_SETTINGS[what])) {
                return INVALID_ARGUMENT;
            }
            int before = settings[what];
            settings[what] = value;
            return before;
        }

        int changeLeak(int sluice, int value) {
            if (!within(sluice, 0, SLUICES - 1) || !within(value, 0, 20)) {
                return INVALID_ARGUMENT;
            }
            int before = leaks[sluice];
            leaks[sluice] = value;
            return before;
        }

        int changeLock(int value) {
            if (!within(value, 0, 1)) {
                return INVALID_ARGUMENT;
            }
            int before = locked;
            locked = value;
            return before;
        }

        int changeOpening(int value) {
            if (!within(value, 0, OPENINGS - 1)) {
                return INVALID_ARGUMENT;
            }
            int before = opening;
            opening = value;
            return before;
        }

        // ---- grain

        int addKind(int hardness, int dustPercent, int price) {
            if (!within(hardness, 1, 9) || !within(dustPercent, 0, 20) || !within(price, 1, 1000000)) {
                return INVALID_ARGUMENT;
            }
            if (kindCount >= KIND_LIMIT) {
                return LIMIT_REACHED;
            }
            Kind added = kinds[kindCount];
            added.hardness = hardness;
            added.dustPercent = dustPercent;
            added.price = price;
            kindCount++;
            return kindCount - 1;
        }

        int addFarmer() {
            if (farmerCount >= FARMER_LIMIT) {
                return LIMIT_REACHED;
            }
            Farmer added = farmers[farmerCount];
            added.purse = 0;
            added.turns = 0;
            farmerCount++;
            return farmerCount - 1;
        }

        int addSack(int farmer, int kind, int pounds) {
            if (!hasFarmer(farmer) || !hasKind(kind) || !within(pounds, 1, GREATEST_SACK)) {
                return INVALID_ARGUMENT;
            }
            if (sackCount >= SACK_LIMIT) {
                return LIMIT_REACHED;
            }
            sacks[sackCount].begin(farmer, kind, kinds[kind], pounds);
            sackCount++;
            return sackCount - 1;
        }

        int withdrawSack(int number) {
            if (!hasSack(number)) {
                return INVALID_ARGUMENT;
            }
            Sack sack = sacks[number];
            if (sack.stage != WAITING) {
                return NOT_POSSIBLE;
            }
            sack.fetched = sack.grain();
            sack.stage = FETCHED;
            return sack.fetched;
        }

        int fetchSack(int number) {
            if (!hasSack(number)) {
                return INVALID_ARGUMENT;
            }
            Sack sack = sacks[number];
            if (sack.stage != GROUND || sack.hasPledge()) {
                return NOT_POSSIBLE;
            }
            sack.fetched = sack.flour();
            sack.stage = FETCHED;
            return sack.fetched;
        }

        int tellKind(int number, int what) {
            switch (what) {
                case 0:
                    return kinds[number].hardness;
                case 1:
                    return kinds[number].dustPercent;
                case 2:
                    return kinds[number].price;
                case 3:
                    return sacksBrought(ALL, number);
                case 4:
                    return sumOf(ALL, number, TOLL);
                default:
                    return sumOf(ALL, number, FALLEN);
            }
        }

        int tellFarmer(int number, int what) {
            switch (what) {
                case 0:
                    return farmers[number].purse;
                case 1:
                    return sacksBrought(number, ALL);
                case 2:
                    return farmers[number].turns;
                case 3:
                    return pledgesOf(number);
                case 4:
                    return sumOf(number, ALL, FLOUR);
                default:
                    return sumOf(number, ALL, FETCHED_POUNDS);
            }
        }

        int sumOf(int farmer, int kind, int what) {
            int sum = 0;
            for (int i = 0; i < sackCount; i++) {
                if (sacks[i].isOf(farmer, kind)) {
                    sum += sacks[i].tell(what);
                }
            }
            return sum;
        }

        private int sacksBrought(int farmer, int kind) {
            int brought = 0;
            for (int i = 0; i < sackCount; i++) {
                if (sacks[i].isOf(farmer, kind)) {
                    brought++;
                }
            }
            return brought;
        }

        private int sacksInStage(int stage) {
            int found = 0;
            for (int i = 0; i < sackCount; i++) {
                if (sacks[i].stage == stage) {
                    found++;
                }
            }
            return found;
        }

        // ---- the queue

        /** Tells how many sacks wait ahead of this one. */
        int placeInQueue(int number) {
            if (sacks[number].stage != WAITING) {
                return NOT_FOUND;
            }
            int ahead = 0;
            for (int i = 0; i < sackCount; i++) {
                if (sacks[i].stage == WAITING && waitsAheadOf(i, number)) {
                    ahead++;
                }
            }
            return ahead;
        }

        int sackAtPlace(int place) {
            for (int i = 0; i < sackCount; i++) {
                if (placeInQueue(i) == place) {
                    return i;
                }
            }
            return NOT_FOUND;
        }

        private int firstOfQueue() {
            int first = NONE;
            int leastRank = 0;
            for (int i = 0; i < sackCount; i++) {
                if (sacks[i].stage == WAITING) {
                    int rank = rankInQueue(sacks[i]);
                    if (first == NONE || rank < leastRank) {
                        first = i;
                        leastRank = rank;
                    }
                }
            }
            return first;
        }

        private boolean waitsAheadOf(int one, int other) {
            int rankOfOne = rankInQueue(sacks[one]);
            int rankOfOther = rankInQueue(sacks[other]);
            return rankOfOne < rankOfOther || (rankOfOne == rankOfOther && one < other);
        }

        /** The sacks with the lesser rank wait ahead. */
        private int rankInQueue(Sack sack) {
            switch (settings[QUEUE_RULE]) {
                case 1:
                    return sack.pounds;
                case 2:
                    return hasFarmer(sack.farmer) ? farmers[sack.farmer].turns : 0;
                case 3:
                    // hardness is at least 1, so 0 is ahead of every other kind
                    return sack.kind == latestKind ? 0 : sack.hardness;
                default:
                    return 0;
            }
        }

        // ---- money

        int addPence(int number, int pence) {
            if (!hasFarmer(number) || !within(pence, 1, 1000000000)) {
                return INVALID_ARGUMENT;
            }
            Farmer farmer = farmers[number];
            if ((long) farmer.purse + pence > GREATEST_PENCE) {
                return NOT_POSSIBLE;
            }
            farmer.purse += pence;
            return farmer.purse;
        }

        int putInPledge(int number, int pounds) {
            if (!hasSack(number) || !within(pounds, 1, GREATEST_SACK)) {
                return INVALID_ARGUMENT;
            }
            Sack sack = sacks[number];
            if (sack.stage != GROUND || sack.hasPledge() || sack.flour() < pounds || !hasFarmer(sack.farmer)) {
                return NOT_POSSIBLE;
            }
            Farmer farmer = farmers[sack.farmer];
            int loan = loanFor(sack, pounds);
            if (loan == NONE || (long) farmer.purse + loan > GREATEST_PENCE) {
                return NOT_POSSIBLE;
            }
            farmer.purse += loan;
            sack.pledged = pounds;
            sack.lent = loan;
            sack.pledgeDay = today();
            sack.lastDay = today() + settings[PLEDGE_DAYS];
            return loan;
        }

        /** The pence that are lent for pounds of a sack, or NONE if a product is too great. */
        private int loanFor(Sack sack, int pounds) {
            long worth = (long) pounds * sack.price;
            long worthByShare = worth * settings[SHARE_LENT];
            if (worth > GREATEST_PENCE || worthByShare > GREATEST_PENCE) {
                return NONE;
            }
            return (int) (worthByShare / 100);
        }

        /** What has to be paid now for the pledge of a sack; GREATEST_PENCE if it is too great. */
        int debtOf(Sack sack) {
            long interestOfDay = (long) sack.lent * settings[INTEREST];
            long interest = interestOfDay * (today() - sack.pledgeDay);
            if (interestOfDay > GREATEST_PENCE || interest > GREATEST_PENCE) {
                return GREATEST_PENCE;
            }
            long debt = sack.lent + interest / 1000;
            return debt > GREATEST_PENCE ? GREATEST_PENCE : (int) debt;
        }

        int redeemPledge(int number) {
            if (!hasSack(number)) {
                return INVALID_ARGUMENT;
            }
            Sack sack = sacks[number];
            if (!sack.hasPledge() || !hasFarmer(sack.farmer)) {
                return NOT_POSSIBLE;
            }
            Farmer farmer = farmers[sack.farmer];
            int debt = debtOf(sack);
            if (debt == GREATEST_PENCE || farmer.purse < debt) {
                return NOT_POSSIBLE;
            }
            farmer.purse -= debt;
            sack.endPledge();
            return farmer.purse;
        }

        /** The sack of the pledge at a place in the order of pledges, or NONE. */
        int sackOfPledge(int place) {
            for (int i = 0; i < sackCount; i++) {
                if (sacks[i].hasPledge() && pledgesAheadOf(i) == place) {
                    return i;
                }
            }
            return NONE;
        }

        private int pledgesAheadOf(int number) {
            int lastDay = sacks[number].lastDay;
            int ahead = 0;
            for (int i = 0; i < sackCount; i++) {
                boolean earlier = sacks[i].lastDay < lastDay || (sacks[i].lastDay == lastDay && i < number);
                if (sacks[i].hasPledge() && earlier) {
                    ahead++;
                }
            }
            return ahead;
        }

        int tellPledge(int number, int what) {
            Sack sack = sacks[number];
            switch (what) {
                case 0:
                    return number;
                case 1:
                    return sack.pledged;
                case 2:
                    return sack.lent;
                case 3:
                    return sack.pledgeDay;
                default:
                    return sack.lastDay;
            }
        }

        private int pledgesOf(int farmer) {
            int pledges = 0;
            for (int i = 0; i < sackCount; i++) {
                if (sacks[i].hasPledge() && sacks[i].isOf(farmer, ALL)) {
                    pledges++;
                }
            }
            return pledges;
        }

        private void dropOldPledges() {
            for (int i = 0; i < sackCount; i++) {
                if (sacks[i].hasPledge() && sacks[i].lastDay < today()) {
                    sacks[i].fall();
                }
            }
        }

        // ---- time and water

        int today() {
            return time / STEPS_OF_DAY;
        }

        int letPass(int steps) {
            if (!within(steps, 1, GREATEST_PASS)) {
                return INVALID_ARGUMENT;
            }
            if (time + steps > TIME_LIMIT) {
                return LIMIT_REACHED;
            }
            for (int i = 0; i < steps; i++) {
                step();
            }
            return time;
        }

        void step() {
            time++;
            if (time % STEPS_OF_DAY == 0) {
                dropOldPledges();
            }
            int sea = seaAt(time);
            flowIn(sea);
            leakOut(sea);
            grind(sea);
        }

        int seaAt(int when) {
            int period = settings[PERIOD];
            int tide = quotient(when, period);
            int phase = when - tide * period;
            int half = period / 2;
            int range = settings[RISE] + settings[SPRING] * Math.abs(tide % 14 - 7) / 7;
            int risen = phase <= half
                ? quotient(range * phase, half)
                : quotient(range * (period - phase), period - half);
            return settings[LOW_WATER] + risen;
        }

        int stepsToHigh() {
            int period = settings[PERIOD];
            int phase = time - quotient(time, period) * period;
            int steps = period / 2 - phase;
            return steps > 0 ? steps : steps + period;
        }

        private int level() {
            return quotient(volume, settings[AREA]);
        }

        private void flowIn(int sea) {
            int depth = sea - level();
            if (locked == 1 || depth <= 0) {
                return;
            }
            int water = Math.min(settings[FLOW], settings[AREA]) * depth;
            volume += water;
            flowedIn += water;
        }

        private void leakOut(int sea) {
            int head = level() - sea;
            if (head <= 0) {
                return;
            }
            for (int i = 0; i < SLUICES; i++) {
                int water = Math.min(leaks[i] * head, volume);
                volume -= water;
                leakedOut += water;
            }
        }

        private void grind(int sea) {
            int head = level() - sea;
            int water = opening * settings[GATE_WATER];
            if (opening == 0 || head <= 0 || head < settings[LEAST_HEAD] || volume < water) {
                return;
            }
            if (!hasSack(sackOnStones)) {
                putOnStones(firstOfQueue());
            }
            if (hasSack(sackOnStones)) {
                volume -= water;
                used += water;
                grindSack(sacks[sackOnStones], opening * head);
            }
        }

        private void putOnStones(int number) {
            if (!hasSack(number)) {
                return;
            }
            Sack sack = sacks[number];
            sack.stage = ON_STONES;
            sack.tollPercent = settings[TOLL_PERCENT];
            sackOnStones = number;
            latestKind = sack.kind;
            if (hasFarmer(sack.farmer)) {
                farmers[sack.farmer].turns++;
            }
        }

        private void grindSack(Sack sack, int force) {
            int pounds = Math.min(Math.max(quotient(force, sack.hardness), 1), sack.grain());
            sack.addGround(pounds);
            ground += pounds;
            if (sack.stage == GROUND) {
                sackOnStones = NONE;
            }
        }

        int tellPond(int what) {
            switch (what) {
                case 0:
                    return volume;
                case 1:
                    return level();
                case 2:
                    return seaAt(time);
                case 3:
                    return level() - seaAt(time);
                case 4:
                    return opening;
                case 5:
                    return locked;
                case 6:
                    return sackOnStones == NONE ? NOT_FOUND : sackOnStones;
                case 7:
                    return flowedIn;
                case 8:
                    return leakedOut;
                case 9:
                    return used;
                case 10:
                    return ground;
                default:
                    return within(what, 11, 10 + SLUICES) ? leaks[what - 11] : INVALID_ARGUMENT;
            }
        }

        /** Tells what count() promises of the mill. */
        int countOf(int what) {
            switch (what) {
                case 0:
                    return kindCount;
                case 1:
                    return farmerCount;
                case 2:
                    return sackCount;
                case 3:
                    return sacksInStage(WAITING);
                case 4:
                    return sacksInStage(GROUND);
                case 5:
                    return sacksInStage(FETCHED);
                case 6:
                    return pledgesOf(ALL);
                case 7:
                    return time;
                case 8:
                    return today();
                default:
                    return INVALID_ARGUMENT;
            }
        }
    }

    /** A ring of states with one place more than are kept: it holds the state before a call that may yet fail. */
    private static final class History {
        final Mill[] states = new Mill[HISTORY_LIMIT + 1];
        int first;
        int size;

        History() {
            for (int i = 0; i <= HISTORY_LIMIT; i++) {
                states[i] = new Mill();
            }
        }

        void hold(Mill mill) {
            states[(first + size) % (HISTORY_LIMIT + 1)].copyFrom(mill);
        }

        /** Keeps the held state if the answer is no error. */
        int keepIfDone(int answer) {
            if (answer >= 0) {
                if (size < HISTORY_LIMIT) {
                    size++;
                } else {
                    first = (first + 1) % (HISTORY_LIMIT + 1);
                }
            }
            return answer;
        }

        int restore(Mill mill) {
            if (size == 0) {
                return NOT_POSSIBLE;
            }
            size--;
            mill.copyFrom(states[(first + size) % (HISTORY_LIMIT + 1)]);
            return size;
        }
    }

    /** The text, and the reading and doing of its orders. */
    private static final class Orders {
        final char[] text = new char[TEXT_LIMIT];
        final int[] numbers = new int[3];
        int length;
        /** How far the text is read. */
        int position;
        /** Where the latest order that was looked at begins. */
        int start;
        int reason;
        int done;

        int append(char character) {
            if (length >= TEXT_LIMIT) {
                return LIMIT_REACHED;
            }
            text[length] = character;
            length++;
            return length;
        }

        int empty() {
            int before = length;
            length = 0;
            return before;
        }

        /** Does the orders one after the other, up to the first one that is not possible. */
        void doAll(Mill mill) {
            position = 0;
            start = 0;
            reason = NO_FAULT;
            done = 0;
            for (int turn = 0; turn < TEXT_LIMIT && position < length && reason == NO_FAULT; turn++) {
                start = position;
                reason = readOrder() ? doOrder(mill) : NOT_OF_FORM;
                if (reason == NO_FAULT) {
                    done++;
                }
            }
        }

        /** Reads the order at the position; tells whether it is of the form. */
        private boolean readOrder() {
            int wanted = numbersAfter(text[position]);
            position++;
            for (int i = 0; i < wanted; i++) {
                if ((i > 0 && !readSign(',')) || !readNumber(i)) {
                    return false;
                }
            }
            return wanted > 0 && readSign(';');
        }

        private static int numbersAfter(char letter) {
            switch (letter) {
                case 'b':
                    return 3;
                case 'p':
                    return 2;
                case 'f':
                case 'r':
                case 'g':
                    return 1;
                default:
                    return 0;
            }
        }

        private boolean readSign(char sign) {
            if (position >= length || text[position] != sign) {
                return false;
            }
            position++;
            return true;
        }

        private boolean readNumber(int index) {
            int digits = 0;
            int number = 0;
            while (digits < 3 && position < length && within(text[position], '0', '9')) {
                number = number * 10 + (text[position] - '0');
                position++;
                digits++;
            }
            numbers[index] = number;
            return digits > 0;
        }

        /** Does the order that was read; returns the reason against it. */
        private int doOrder(Mill mill) {
            if (!isKnown(mill)) {
                return NO_SUCH;
            }
            return answerOf(mill) < 0 ? REFUSED : NO_FAULT;
        }

        private boolean isKnown(Mill mill) {
            switch (text[start]) {
                case 'b':
                    return mill.hasFarmer(numbers[0]) && mill.hasKind(numbers[1]);
                case 'g':
                    return true;
                default:
                    return mill.hasSack(numbers[0]);
            }
        }

        private int answerOf(Mill mill) {
            switch (text[start]) {
                case 'b':
                    return mill.addSack(numbers[0], numbers[1], numbers[2]);
                case 'f':
                    return mill.fetchSack(numbers[0]);
                case 'p':
                    return mill.putInPledge(numbers[0], numbers[1]);
                case 'r':
                    return mill.redeemPledge(numbers[0]);
                default:
                    return mill.changeOpening(numbers[0]);
            }
        }
    }
}
