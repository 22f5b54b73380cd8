import java.math.BigInteger;
import java.util.ArrayDeque;
import java.util.ArrayList;
import java.util.Comparator;
import java.util.Deque;
import java.util.List;
import java.util.regex.Matcher;
import java.util.regex.Pattern;

/**
 * The document once more, as plainly as the Java library allows and in another way than the program: sacks are
 * ground pound by pound, queues are sorted, texts are matched by patterns, money is reckoned by BigInteger.
 */
final class Model {
    static final int INVALID = -1000001;
    static final int NOT_POSSIBLE = -1000002;
    static final int LIMIT = -1000003;
    static final int NOT_FOUND = -1000004;

    private static final int[] LEAST = {10, 0, 0, 0, 4, 0, 0, 0, 0, 0, 1, 1, 0};
    private static final int[] GREATEST = {1000, 100, 300, 100, 100, 200, 100, 2000, 50, 100, 60, 100, 3};
    private static final BigInteger MOST = BigInteger.valueOf(Integer.MAX_VALUE);
    private static final Pattern ORDER = Pattern.compile(
        "(?:b(\\d{1,3}),(\\d{1,3}),(\\d{1,3})|f(\\d{1,3})|p(\\d{1,3}),(\\d{1,3})|r(\\d{1,3})|g(\\d{1,3}));",
        Pattern.DOTALL);

    private record Grain(int hardness, int dust, int price) {
    }

    private static final class Sack {
        int number;
        int farmer;
        int kind;
        int brought;
        String state = "waiting";
        int grain;
        int ground;
        int percent;
        int toll;
        int dust;
        int inPledge;
        int lent;
        int day;
        int last;
        int fallen;
        int fetched;
        boolean pledged;
        boolean empty;

        int flour() {
            return empty ? 0 : ground - toll - dust - inPledge - fallen;
        }

        Sack copy() {
            Sack it = new Sack();
            it.number = number;
            it.farmer = farmer;
            it.kind = kind;
            it.brought = brought;
            it.state = state;
            it.grain = grain;
            it.ground = ground;
            it.percent = percent;
            it.toll = toll;
            it.dust = dust;
            it.inPledge = inPledge;
            it.lent = lent;
            it.day = day;
            it.last = last;
            it.fallen = fallen;
            it.fetched = fetched;
            it.pledged = pledged;
            it.empty = empty;
            return it;
        }
    }

    private static final class State {
        int[] settings = {100, 20, 100, 20, 50, 60, 10, 200, 10, 5, 10, 50, 0};
        int[] leaks = {2, 1, 3, 0};
        boolean locked;
        int opening;
        int time;
        int volume;
        int in;
        int out;
        int used;
        int ground;
        Integer kindOfLast;
        List<Grain> kinds = new ArrayList<>();
        List<Integer> purses = new ArrayList<>();
        List<Sack> sacks = new ArrayList<>();

        State copy() {
            State it = new State();
            it.settings = settings.clone();
            it.leaks = leaks.clone();
            it.locked = locked;
            it.opening = opening;
            it.time = time;
            it.volume = volume;
            it.in = in;
            it.out = out;
            it.used = used;
            it.ground = ground;
            it.kindOfLast = kindOfLast;
            it.kinds = new ArrayList<>(kinds);
            it.purses = new ArrayList<>(purses);
            for (Sack sack : sacks) {
                it.sacks.add(sack.copy());
            }
            return it;
        }

        int day() {
            return time / 96;
        }

        int sea(int when) {
            int k = when / settings[4];
            int f = when % settings[4];
            int h = settings[4] / 2;
            int size = k % 14 < 7 ? 7 - k % 14 : k % 14 - 7;
            int r = settings[2] + settings[3] * size / 7;
            return settings[1] + (f <= h ? r * f / h : r * (settings[4] - f) / (settings[4] - h));
        }

        int level() {
            return volume / settings[0];
        }

        int head() {
            return level() - sea(time);
        }

        Sack onStones() {
            for (Sack sack : sacks) {
                if (sack.state.equals("stones")) {
                    return sack;
                }
            }
            return null;
        }

        int turns(int farmer) {
            int turns = 0;
            for (Sack sack : sacks) {
                boolean never = sack.state.equals("waiting") || (sack.state.equals("fetched") && sack.ground == 0);
                if (sack.farmer == farmer && !never) {
                    turns++;
                }
            }
            return turns;
        }

        List<Sack> queue() {
            List<Sack> queue = new ArrayList<>();
            for (Sack sack : sacks) {
                if (sack.state.equals("waiting")) {
                    queue.add(sack);
                }
            }
            if (settings[12] == 1) {
                queue.sort(Comparator.comparing(sack -> sack.brought));
            } else if (settings[12] == 2) {
                queue.sort(Comparator.comparing(sack -> turns(sack.farmer)));
            } else if (settings[12] == 3) {
                queue.sort(Comparator.comparing((Sack sack) -> kindOfLast == null || sack.kind != kindOfLast)
                    .thenComparing(sack -> kinds.get(sack.kind).hardness()));
            }
            return queue;
        }

        List<Sack> pledges() {
            List<Sack> pledges = new ArrayList<>();
            for (Sack sack : sacks) {
                if (sack.pledged) {
                    pledges.add(sack);
                }
            }
            pledges.sort(Comparator.comparing(sack -> sack.last));
            return pledges;
        }

        void step() {
            time++;
            for (Sack sack : pledges()) {
                if (sack.last < day()) {
                    sack.fallen += sack.inPledge;
                    release(sack);
                }
            }
            int head = head();
            if (!locked && head < 0) {
                int flow = Math.min(settings[5] * -head, settings[0] * -head);
                volume += flow;
                in += flow;
            }
            head = head();
            for (int leak : leaks) {
                int drop = head > 0 ? Math.min(leak * head, volume) : 0;
                volume -= drop;
                out += drop;
            }
            head = head();
            boolean work = onStones() != null || !queue().isEmpty();
            int water = opening * settings[7];
            if (opening > 0 && head >= settings[6] && head > 0 && volume >= water && work) {
                mill(head, water);
            }
        }

        private void mill(int head, int water) {
            Sack sack = onStones();
            if (sack == null) {
                sack = queue().get(0);
                sack.state = "stones";
                sack.percent = settings[8];
                kindOfLast = sack.kind;
            }
            volume -= water;
            used += water;
            int pounds = Math.max(1, opening * head / kinds.get(sack.kind).hardness());
            for (int i = 0; i < pounds && sack.grain > 0; i++) {
                sack.grain--;
                sack.ground++;
                ground++;
            }
            sack.toll = sack.ground * sack.percent / 100;
            sack.dust = (sack.ground - sack.toll) * kinds.get(sack.kind).dust() / 100;
            if (sack.grain == 0) {
                sack.state = "ground";
            }
        }

        void release(Sack sack) {
            sack.pledged = false;
            sack.inPledge = 0;
            sack.lent = 0;
        }

        int owed(Sack sack) {
            BigInteger lent = BigInteger.valueOf(sack.lent);
            BigInteger first = lent.multiply(BigInteger.valueOf(settings[9]));
            BigInteger second = first.multiply(BigInteger.valueOf(day() - sack.day));
            BigInteger sum = lent.add(second.divide(BigInteger.valueOf(1000)));
            return first.max(second).max(sum).min(MOST).equals(MOST) ? Integer.MAX_VALUE : sum.intValue();
        }
    }

    private State now = new State();
    private final Deque<State> history = new ArrayDeque<>();
    private final StringBuilder text = new StringBuilder();

    private static boolean out(int number, int least, int greatest) {
        return number < least || number > greatest;
    }

    private static boolean out(int index, List<?> list) {
        return out(index, 0, list.size() - 1);
    }

    private void record(State before) {
        history.addLast(before);
        if (history.size() == 5) {
            history.removeFirst();
        }
    }

    /** Does a change by its name, and records what was before it if it answers no error. */
    int change(String name, int a, int b, int c) {
        State before = now.copy();
        int answer = attempt(name, a, b, c);
        if (answer >= 0) {
            record(before);
        } else {
            now = before;
        }
        return answer;
    }

    private int attempt(String name, int a, int b, int c) {
        switch (name) {
            case "set":
                return set(a, b);
            case "leak":
                return leak(a, b);
            case "lock":
                return lock(a);
            case "gate":
                return gate(a);
            case "kind":
                return kind(a, b, c);
            case "farmer":
                return farmer();
            case "bring":
                return bring(a, b, c);
            case "withdraw":
                return withdraw(a);
            case "fetch":
                return fetch(a);
            case "earn":
                return earn(a, b);
            case "pledge":
                return pledge(a, b);
            case "redeem":
                return redeem(a);
            case "pass":
                return pass(a);
            default:
                return play();
        }
    }

    private int set(int what, int value) {
        if (out(what, 0, 12) || out(value, LEAST[what], GREATEST[what])) {
            return INVALID;
        }
        int was = now.settings[what];
        now.settings[what] = value;
        return was;
    }

    private int leak(int sluice, int value) {
        if (out(sluice, 0, 3) || out(value, 0, 20)) {
            return INVALID;
        }
        int was = now.leaks[sluice];
        now.leaks[sluice] = value;
        return was;
    }

    private int lock(int locked) {
        if (locked != 0 && locked != 1) {
            return INVALID;
        }
        int was = now.locked ? 1 : 0;
        now.locked = locked == 1;
        return was;
    }

    private int gate(int opening) {
        if (out(opening, 0, 3)) {
            return INVALID;
        }
        int was = now.opening;
        now.opening = opening;
        return was;
    }

    private int kind(int hardness, int dust, int price) {
        if (out(hardness, 1, 9) || out(dust, 0, 20) || out(price, 1, 1000000)) {
            return INVALID;
        }
        if (now.kinds.size() == 6) {
            return LIMIT;
        }
        now.kinds.add(new Grain(hardness, dust, price));
        return now.kinds.size() - 1;
    }

    private int farmer() {
        if (now.purses.size() == 8) {
            return LIMIT;
        }
        now.purses.add(0);
        return now.purses.size() - 1;
    }

    private int bring(int farmer, int kind, int pounds) {
        if (out(farmer, now.purses) || out(kind, now.kinds) || out(pounds, 1, 200)) {
            return INVALID;
        }
        if (now.sacks.size() == 24) {
            return LIMIT;
        }
        Sack sack = new Sack();
        sack.number = now.sacks.size();
        sack.farmer = farmer;
        sack.kind = kind;
        sack.brought = pounds;
        sack.grain = pounds;
        now.sacks.add(sack);
        return sack.number;
    }

    private int withdraw(int number) {
        if (out(number, now.sacks)) {
            return INVALID;
        }
        Sack sack = now.sacks.get(number);
        if (!sack.state.equals("waiting")) {
            return NOT_POSSIBLE;
        }
        return take(sack);
    }

    private int fetch(int number) {
        if (out(number, now.sacks)) {
            return INVALID;
        }
        Sack sack = now.sacks.get(number);
        if (!sack.state.equals("ground") || sack.pledged) {
            return NOT_POSSIBLE;
        }
        return take(sack);
    }

    private static int take(Sack sack) {
        sack.fetched = sack.grain + sack.flour();
        sack.grain = 0;
        sack.empty = true;
        sack.state = "fetched";
        return sack.fetched;
    }

    private int earn(int farmer, int pence) {
        if (out(farmer, now.purses) || out(pence, 1, 1000000000)) {
            return INVALID;
        }
        BigInteger purse = BigInteger.valueOf(now.purses.get(farmer)).add(BigInteger.valueOf(pence));
        if (purse.compareTo(MOST) > 0) {
            return NOT_POSSIBLE;
        }
        now.purses.set(farmer, purse.intValue());
        return purse.intValue();
    }

    private int pledge(int number, int pounds) {
        if (out(number, now.sacks) || out(pounds, 1, 200)) {
            return INVALID;
        }
        Sack sack = now.sacks.get(number);
        if (!sack.state.equals("ground") || sack.pledged || sack.flour() < pounds) {
            return NOT_POSSIBLE;
        }
        BigInteger product = BigInteger.valueOf(pounds)
            .multiply(BigInteger.valueOf(now.kinds.get(sack.kind).price()))
            .multiply(BigInteger.valueOf(now.settings[11]));
        BigInteger loan = product.divide(BigInteger.valueOf(100));
        BigInteger purse = loan.add(BigInteger.valueOf(now.purses.get(sack.farmer)));
        if (product.compareTo(MOST) > 0 || purse.compareTo(MOST) > 0) {
            return NOT_POSSIBLE;
        }
        now.purses.set(sack.farmer, purse.intValue());
        sack.pledged = true;
        sack.inPledge = pounds;
        sack.lent = loan.intValue();
        sack.day = now.day();
        sack.last = now.day() + now.settings[10];
        return sack.lent;
    }

    private int redeem(int number) {
        if (out(number, now.sacks)) {
            return INVALID;
        }
        Sack sack = now.sacks.get(number);
        if (!sack.pledged) {
            return NOT_POSSIBLE;
        }
        int owed = now.owed(sack);
        int purse = now.purses.get(sack.farmer);
        if (owed == Integer.MAX_VALUE || owed > purse) {
            return NOT_POSSIBLE;
        }
        now.release(sack);
        now.purses.set(sack.farmer, purse - owed);
        return purse - owed;
    }

    private int pass(int steps) {
        if (out(steps, 1, 200)) {
            return INVALID;
        }
        if (now.time + steps > 10000) {
            return LIMIT;
        }
        for (int i = 0; i < steps; i++) {
            now.step();
        }
        return now.time;
    }

    private int play() {
        int[] fault = new int[2];
        int orders = readText(fault);
        return fault[1] == 0 ? orders : NOT_POSSIBLE;
    }

    /** Does the orders of the text, tells a fault by its place and reason, and returns how many were done. */
    private int readText(int[] fault) {
        Matcher order = ORDER.matcher(text);
        int place = 0;
        int done = 0;
        while (place < text.length()) {
            order.region(place, text.length());
            fault[0] = place;
            fault[1] = order.lookingAt() ? reason(order) : 1;
            if (fault[1] != 0) {
                return done;
            }
            place = order.end();
            done++;
        }
        return done;
    }

    private static int part(Matcher order, int group) {
        return Integer.parseInt(order.group(group));
    }

    private int reason(Matcher order) {
        int answer;
        if (order.group(1) != null) {
            if (out(part(order, 1), now.purses) || out(part(order, 2), now.kinds)) {
                return 2;
            }
            answer = bring(part(order, 1), part(order, 2), part(order, 3));
        } else if (order.group(8) != null) {
            answer = gate(part(order, 8));
        } else {
            int group = order.group(4) != null ? 4 : order.group(5) != null ? 5 : 7;
            int sack = part(order, group);
            if (out(sack, now.sacks)) {
                return 2;
            }
            answer = group == 4 ? fetch(sack) : group == 5 ? pledge(sack, part(order, 6)) : redeem(sack);
        }
        return answer < 0 ? 3 : 0;
    }

    /** Asks, undoes, or changes the text by the name of the call. */
    int ask(String name, int a, int b, int c) {
        switch (name) {
            case "kindOf":
                return kindOf(a, b);
            case "farmerOf":
                return farmerOf(a, b);
            case "sackOf":
                return sackOf(a, b);
            case "queueAt":
                return a < 0 ? INVALID : a < now.queue().size() ? now.queue().get(a).number : NOT_FOUND;
            case "account":
                return account(a, b, c);
            case "owed":
                return out(a, now.sacks) ? INVALID
                    : now.sacks.get(a).pledged ? now.owed(now.sacks.get(a)) : NOT_FOUND;
            case "pledgeAt":
                return pledgeAt(a, b);
            case "seaIn":
                return out(a, 0, 5000) ? INVALID : now.sea(now.time + a);
            case "nextHigh":
                return nextHigh();
            case "pond":
                return pond(a);
            case "foresee":
                return foresee(a);
            case "bestGate":
                return bestGate(a);
            case "count":
                return count(a);
            case "undo":
                return undo();
            case "type":
                return type(a);
            case "clearText":
                int length = text.length();
                text.setLength(0);
                return length;
            default:
                return fault(a);
        }
    }

    private int sum(int farmer, int kind, int what) {
        int sum = 0;
        for (Sack sack : now.sacks) {
            if ((farmer == -1 || farmer == sack.farmer) && (kind == -1 || kind == sack.kind)) {
                sum += what == -1 ? 1 : sackOf(sack.number, what);
            }
        }
        return sum;
    }

    private int kindOf(int kind, int what) {
        if (out(kind, now.kinds) || out(what, 0, 5)) {
            return INVALID;
        }
        Grain its = now.kinds.get(kind);
        int[] all = {its.hardness(), its.dust(), its.price(), sum(-1, kind, -1), sum(-1, kind, 6), sum(-1, kind, 9)};
        return all[what];
    }

    private int farmerOf(int farmer, int what) {
        if (out(farmer, now.purses) || out(what, 0, 5)) {
            return INVALID;
        }
        int pledges = 0;
        for (Sack sack : now.pledges()) {
            pledges += sack.farmer == farmer ? 1 : 0;
        }
        int[] all = {now.purses.get(farmer), sum(farmer, -1, -1), now.turns(farmer), pledges, sum(farmer, -1, 5),
            sum(farmer, -1, 10)};
        return all[what];
    }

    private int sackOf(int number, int what) {
        if (out(number, now.sacks) || out(what, 0, 11)) {
            return INVALID;
        }
        Sack its = now.sacks.get(number);
        int place = now.queue().indexOf(its);
        int state = List.of("waiting", "stones", "ground", "fetched").indexOf(its.state);
        int[] all = {its.farmer, its.kind, its.brought, state, its.grain, its.flour(), its.toll, its.dust,
            its.inPledge, its.fallen, its.fetched, place == -1 ? NOT_FOUND : place};
        if (all[4] + all[5] + all[6] + all[7] + all[8] + all[9] + all[10] != all[2]) {
            throw new IllegalStateException("the pounds of sack " + number + " do not add up");
        }
        return all[what];
    }

    private int account(int farmer, int kind, int what) {
        boolean some = (farmer == -1 || !out(farmer, now.purses)) && (kind == -1 || !out(kind, now.kinds));
        if (!some || out(what, 2, 10) || what == 3) {
            return INVALID;
        }
        return sum(farmer, kind, what);
    }

    private int pledgeAt(int index, int what) {
        if (index < 0 || out(what, 0, 4)) {
            return INVALID;
        }
        if (index >= now.pledges().size()) {
            return NOT_FOUND;
        }
        Sack its = now.pledges().get(index);
        int[] all = {its.number, its.inPledge, its.lent, its.day, its.last};
        return all[what];
    }

    private int nextHigh() {
        for (int steps = 1;; steps++) {
            if ((now.time + steps) % now.settings[4] == now.settings[4] / 2) {
                return steps;
            }
        }
    }

    private int pond(int what) {
        if (out(what, 0, 14)) {
            return INVALID;
        }
        Sack sack = now.onStones();
        int[] all = {now.volume, now.level(), now.sea(now.time), now.head(), now.opening, now.locked ? 1 : 0,
            sack == null ? NOT_FOUND : sack.number, now.in, now.out, now.used, now.ground, now.leaks[0], now.leaks[1],
            now.leaks[2], now.leaks[3]};
        return all[what];
    }

    private int foresee(int number) {
        if (out(number, now.sacks)) {
            return INVALID;
        }
        String state = now.sacks.get(number).state;
        if (state.equals("ground") || state.equals("fetched")) {
            return NOT_POSSIBLE;
        }
        State then = now.copy();
        for (int steps = 1; steps <= 1000; steps++) {
            then.step();
            if (then.sacks.get(number).state.equals("ground")) {
                return steps;
            }
        }
        return NOT_FOUND;
    }

    private int bestGate(int steps) {
        if (out(steps, 1, 200)) {
            return INVALID;
        }
        int best = 3;
        int most = -1;
        for (int opening = 3; opening >= 0; opening--) {
            State then = now.copy();
            then.opening = opening;
            for (int i = 0; i < steps; i++) {
                then.step();
            }
            if (then.ground >= most) {
                most = then.ground;
                best = opening;
            }
        }
        return best;
    }

    private int inState(String state) {
        int found = 0;
        for (Sack sack : now.sacks) {
            found += sack.state.equals(state) ? 1 : 0;
        }
        return found;
    }

    private int count(int what) {
        if (!out(what, 20, 32)) {
            return now.settings[what - 20];
        }
        if (out(what, 0, 10)) {
            return INVALID;
        }
        int[] all = {now.kinds.size(), now.purses.size(), now.sacks.size(), inState("waiting"), inState("ground"),
            inState("fetched"), now.pledges().size(), now.time, now.day(), history.size(), text.length()};
        return all[what];
    }

    private int undo() {
        if (history.isEmpty()) {
            return NOT_POSSIBLE;
        }
        now = history.removeLast();
        return history.size();
    }

    private int type(int character) {
        if (out(character, 32, 126)) {
            return INVALID;
        }
        if (text.length() == 60) {
            return LIMIT;
        }
        text.append((char) character);
        return text.length();
    }

    private int fault(int what) {
        if (out(what, 0, 1)) {
            return INVALID;
        }
        State before = now.copy();
        int[] fault = new int[2];
        readText(fault);
        now = before;
        return fault[1] == 0 ? NOT_FOUND : fault[what];
    }
}
