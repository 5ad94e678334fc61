import java.util.ArrayDeque;
import java.util.ArrayList;
import java.util.Arrays;
import java.util.Comparator;
import java.util.HashSet;
import java.util.List;
import java.util.Set;
import java.util.TreeSet;

/**
 * The document once more, told with sets, lists and sorting, and built in another way than
 * the class on purpose: where both answer the same, a slip would have to stand in both.
 */
final class Model {
    private static final int BAD_INDEX = -1, BAD_VALUE = -2, NOT_POSSIBLE = -3, FULL = -4, REFUSED = -5, NONE = -6;

    private static final List<List<Integer>> SPEEDS =
            List.of(List.of(33, 45, 78), List.of(95, 190, 380), List.of(48));
    private static final List<Set<Integer>> KIND_LAYOUTS = List.of(Set.of(1, 3), Set.of(0, 1, 2), Set.of(1, 3));
    private static final int[][][] STRIPS = {
        {{0, 1, 2, 3}}, {{0, 1}, {2, 3}}, {{0}, {1}, {2}, {3}}, {{0}, {1}, {2}, {3}}};
    private static final int[][] SIDES = {{0}, {0, 1}, {0, 1, 0, 1}, {0, 0, 1, 1}};

    record Carrier(int kind, int speed, int layout, int length, int[] plays) {
        Carrier copy() {
            return new Carrier(kind, speed, layout, length, plays.clone());
        }
    }

    record Machine(int kind, int speeds, int head, int quality, int[] time) {
        Machine copy() {
            return new Machine(kind, speeds, head, quality, time.clone());
        }
    }

    record Part(int from, int to, int holder, int free) {
    }

    record Recording(int carrier, int tracks, int from, int to, List<Part> parts) {
        Recording copy() {
            return new Recording(carrier, tracks, from, to, new ArrayList<>(parts));
        }

        int length() {
            return to - from;
        }
    }

    record Pass(int carrier, int machine, int speed, int side, int day, int[] captures) {
    }

    record Permission(int holder, int user, int use, int until, boolean[] revoked) {
        Permission copy() {
            return new Permission(holder, user, use, until, revoked.clone());
        }
    }

    static final class Request {
        int number, state, user, recording, from, to, use, quality, due, pass = NONE, fee;

        Request copy() {
            Request r = new Request();
            r.number = number;
            r.state = state;
            r.user = user;
            r.recording = recording;
            r.from = from;
            r.to = to;
            r.use = use;
            r.quality = quality;
            r.due = due;
            r.pass = pass;
            r.fee = fee;
            return r;
        }
    }

    static final class State {
        List<Carrier> carriers = new ArrayList<>();
        List<Machine> machines = new ArrayList<>();
        List<Recording> recordings = new ArrayList<>();
        List<Pass> passes = new ArrayList<>();
        List<Permission> permissions = new ArrayList<>();
        List<Request> requests = new ArrayList<>();
        int[] income = new int[8];
        int[] paid = new int[8];
        int today;
        int reason;

        State copy() {
            State c = new State();
            carriers.forEach(x -> c.carriers.add(x.copy()));
            machines.forEach(x -> c.machines.add(x.copy()));
            recordings.forEach(x -> c.recordings.add(x.copy()));
            c.passes.addAll(passes);
            permissions.forEach(x -> c.permissions.add(x.copy()));
            requests.forEach(x -> c.requests.add(x.copy()));
            c.income = income.clone();
            c.paid = paid.clone();
            c.today = today;
            c.reason = reason;
            return c;
        }
    }

    State s = new State();
    final ArrayDeque<State> history = new ArrayDeque<>();
    final State[] slots = new State[2];
    final StringBuilder text = new StringBuilder();
    private boolean inRun = false;

    private void record() {
        if (inRun) {
            return;
        }
        history.addLast(s.copy());
        if (history.size() > 5) {
            history.removeFirst();
        }
    }

    private static boolean in(int v, int low, int high) {
        return low <= v && v <= high;
    }

    private static boolean has(List<?> list, int i) {
        return i >= 0 && i < list.size();
    }

    private static Set<Integer> bits(int set) {
        Set<Integer> r = new TreeSet<>();
        for (int k = 0; k < 32; k++) {
            if ((set >> k & 1) == 1) {
                r.add(k);
            }
        }
        return r;
    }

    int addCarrier(int kind, int speed, int layout, int length, int plays) {
        if (!in(kind, 0, 2) || !SPEEDS.get(kind).contains(speed) || !KIND_LAYOUTS.get(kind).contains(layout)) {
            return BAD_VALUE;
        }
        if (!in(length, 1, 3600) || !in(plays, 1, 99)) {
            return BAD_VALUE;
        }
        if (s.carriers.size() == 8) {
            return FULL;
        }
        record();
        s.carriers.add(new Carrier(kind, speed, layout, length, new int[] {plays}));
        return s.carriers.size() - 1;
    }

    int addMachine(int kind, int speeds, int head, int quality) {
        if (!in(kind, 0, 2) || !in(speeds, 1, kind == 2 ? 1 : 7) || !KIND_LAYOUTS.get(kind).contains(head)) {
            return BAD_VALUE;
        }
        if (!in(quality, 1, 100)) {
            return BAD_VALUE;
        }
        if (s.machines.size() == 4) {
            return FULL;
        }
        record();
        s.machines.add(new Machine(kind, speeds, head, quality, new int[] {28800}));
        return s.machines.size() - 1;
    }

    private Set<Integer> sidesOf(int layout, int tracks) {
        Set<Integer> sides = new HashSet<>();
        for (int t : bits(tracks)) {
            sides.add(t < SIDES[layout].length ? SIDES[layout][t] : 99);
        }
        return sides;
    }

    int addRecording(int carrier, int tracks, int from, int to) {
        if (!has(s.carriers, carrier)) {
            return BAD_INDEX;
        }
        Carrier c = s.carriers.get(carrier);
        Set<Integer> sides = sidesOf(c.layout, tracks);
        if (sides.size() != 1 || sides.contains(99)) {
            return BAD_VALUE;
        }
        if (!in(from, 0, c.length - 1) || !(to > from && to <= c.length)) {
            return BAD_VALUE;
        }
        if (s.recordings.size() == 16) {
            return FULL;
        }
        for (Recording r : s.recordings) {
            if (r.carrier == carrier) {
                Set<Integer> shared = bits(r.tracks);
                shared.retainAll(bits(tracks));
                boolean second = false;
                for (int t = from; t < to; t++) {
                    second |= t >= r.from && t < r.to;
                }
                if (!shared.isEmpty() && second) {
                    return NOT_POSSIBLE;
                }
            }
        }
        record();
        s.recordings.add(new Recording(carrier, tracks, from, to, new ArrayList<>()));
        return s.recordings.size() - 1;
    }

    int addPart(int recording, int from, int to, int holder, int free) {
        if (!has(s.recordings, recording)) {
            return BAD_INDEX;
        }
        Recording r = s.recordings.get(recording);
        if (!in(from, 0, r.length() - 1) || !(to > from && to <= r.length()) || !in(holder, 0, 7) || !in(free, 0, 9999)) {
            return BAD_VALUE;
        }
        if (r.parts.size() == 4) {
            return FULL;
        }
        record();
        r = s.recordings.get(recording);
        r.parts.add(new Part(from, to, holder, free));
        return r.parts.size() - 1;
    }

    private boolean speedFits(Machine m, int speed) {
        int k = SPEEDS.get(m.kind).indexOf(speed);
        return k >= 0 && bits(m.speeds).contains(k);
    }

    private int madeOf(int carrier) {
        return (int) s.passes.stream().filter(p -> p.carrier == carrier).count();
    }

    private int capture(int carrier, Machine m, int speed, int side, int track) {
        Carrier c = s.carriers.get(carrier);
        Set<Integer> own = new HashSet<>();
        for (int strip : STRIPS[c.layout][track]) {
            own.add(strip);
        }
        int most = 0;
        for (int h = 0; h < STRIPS[m.head].length; h++) {
            if (SIDES[m.head][h] == 0) {
                Set<Integer> read = new HashSet<>();
                for (int strip : STRIPS[m.head][h]) {
                    read.add(side == 0 ? strip : 3 - strip);
                }
                if (own.containsAll(read)) {
                    most = Math.max(most, read.size());
                }
            }
        }
        if (most == 0) {
            return 0;
        }
        long above = (long) m.quality * most * Math.min(speed, c.speed);
        long below = (long) own.size() * Math.max(speed, c.speed);
        return (int) Math.max(0, above / below - madeOf(carrier));
    }

    private int tracksOf(int carrier) {
        return STRIPS[s.carriers.get(carrier).layout].length;
    }

    private int[] captures(int carrier, Machine m, int speed, int side) {
        int[] r = new int[tracksOf(carrier)];
        for (int t = 0; t < r.length; t++) {
            r[t] = capture(carrier, m, speed, side, t);
        }
        return r;
    }

    private static int cost(Carrier c, int speed) {
        return speed > c.speed ? 2 : 1;
    }

    private static int time(Carrier c, int speed) {
        return (int) Math.ceil((double) (c.length * c.speed) / speed);
    }

    private int refuse(int reason) {
        s.reason = reason;
        return REFUSED;
    }

    int transfer(int carrier, int machine, int speed, int side) {
        if (!has(s.carriers, carrier) || !has(s.machines, machine)) {
            return BAD_INDEX;
        }
        Machine m = s.machines.get(machine);
        Carrier c = s.carriers.get(carrier);
        if (!speedFits(m, speed) || !in(side, 0, 1)) {
            return BAD_VALUE;
        }
        if (m.kind != c.kind) {
            return refuse(1);
        }
        if (c.plays[0] < cost(c, speed)) {
            return refuse(2);
        }
        if (m.time[0] < time(c, speed)) {
            return refuse(3);
        }
        int[] captures = captures(carrier, m, speed, side);
        if (Arrays.stream(captures).allMatch(x -> x == 0)) {
            return refuse(4);
        }
        if (s.passes.size() == 24) {
            return refuse(5);
        }
        record();
        c.plays[0] -= cost(c, speed);
        m.time[0] -= time(c, speed);
        s.reason = 0;
        s.passes.add(new Pass(carrier, machine, speed, side, s.today, captures));
        return s.passes.size() - 1;
    }

    int permit(int holder, int user, int use, int until) {
        if (!in(holder, 0, 7) || !in(user, 0, 7) || !in(use, 0, 2) || !in(until, 0, 9999)) {
            return BAD_VALUE;
        }
        if (s.permissions.size() == 24) {
            return FULL;
        }
        record();
        s.permissions.add(new Permission(holder, user, use, until, new boolean[1]));
        return s.permissions.size() - 1;
    }

    int revoke(int permission) {
        if (!has(s.permissions, permission)) {
            return BAD_INDEX;
        }
        if (s.permissions.get(permission).revoked[0]) {
            return NOT_POSSIBLE;
        }
        record();
        s.permissions.get(permission).revoked[0] = true;
        return (int) s.permissions.stream().filter(p -> !p.revoked[0]).count();
    }

    private int checkExcerpt(int user, int recording, int from, int to, int use) {
        if (!has(s.recordings, recording)) {
            return BAD_INDEX;
        }
        int length = s.recordings.get(recording).length();
        if (!in(user, 0, 7) || !in(from, 0, length - 1) || !(to > from && to <= length) || !in(use, 0, 2)) {
            return BAD_VALUE;
        }
        return 0;
    }

    int request(int user, int recording, int from, int to, int use, int quality) {
        int e = checkExcerpt(user, recording, from, to, use);
        if (e != 0) {
            return e;
        }
        if (!in(quality, 1, 100)) {
            return BAD_VALUE;
        }
        if (s.requests.size() == 16) {
            return FULL;
        }
        record();
        Request r = new Request();
        r.number = s.requests.size();
        r.user = user;
        r.recording = recording;
        r.from = from;
        r.to = to;
        r.use = use;
        r.quality = quality;
        r.due = Math.min(9999, s.today + 30);
        s.requests.add(r);
        return r.number;
    }

    int setDue(int request, int day) {
        if (!has(s.requests, request)) {
            return BAD_INDEX;
        }
        if (!in(day, s.today, 9999)) {
            return BAD_VALUE;
        }
        if (s.requests.get(request).state != 0) {
            return NOT_POSSIBLE;
        }
        record();
        int old = s.requests.get(request).due;
        s.requests.get(request).due = day;
        return old;
    }

    private int countState(int state) {
        return (int) s.requests.stream().filter(r -> r.state == state).count();
    }

    int withdraw(int request) {
        if (!has(s.requests, request)) {
            return BAD_INDEX;
        }
        if (s.requests.get(request).state != 0) {
            return NOT_POSSIBLE;
        }
        record();
        s.requests.get(request).state = 3;
        return countState(0);
    }

    private int[] feesByHolder(int user, int recording, int from, int to, int use) {
        int[] r = new int[8];
        for (Part p : s.recordings.get(recording).parts) {
            for (int t = from; t < to; t++) {
                if (t >= p.from && t < p.to && s.today < p.free && p.holder != user) {
                    r[p.holder] += new int[] {0, 1, 3}[use];
                }
            }
        }
        return r;
    }

    int answer(int request) {
        if (!has(s.requests, request)) {
            return BAD_INDEX;
        }
        Request r = s.requests.get(request);
        if (r.state != 0) {
            return refuse(6);
        }
        int best = bestPass(r.recording);
        if (best == NONE) {
            return refuse(7);
        }
        if (quality(best, r.recording) < r.quality) {
            return refuse(8);
        }
        if (lacking(r.user, r.recording, r.from, r.to, r.use) != 0) {
            return refuse(9);
        }
        record();
        int[] fees = feesByHolder(r.user, r.recording, r.from, r.to, r.use);
        r.fee = Arrays.stream(fees).sum();
        for (int h = 0; h < 8; h++) {
            s.income[h] += fees[h];
        }
        s.paid[r.user] += r.fee;
        r.pass = best;
        r.state = 1;
        s.reason = 0;
        return best;
    }

    int passDays(int days) {
        if (!in(days, 1, 99)) {
            return BAD_VALUE;
        }
        if (s.today + days > 9999) {
            return NOT_POSSIBLE;
        }
        record();
        s.today += days;
        s.machines.forEach(m -> m.time[0] = 28800);
        int n = 0;
        for (Request r : s.requests) {
            if (r.state == 0 && r.due < s.today) {
                r.state = 2;
                n++;
            }
        }
        return n;
    }

    int append(int b) {
        if (!in(b, 32, 126)) {
            return BAD_VALUE;
        }
        if (text.length() == 80) {
            return FULL;
        }
        text.append((char) b);
        return text.length();
    }

    int clearText() {
        int n = text.length();
        text.setLength(0);
        return n;
    }

    /** Reads the text by a pattern for each act; fills the list of acts; answers the fault or NONE. */
    private int parse(List<int[]> acts) {
        int p = 0;
        while (p < text.length()) {
            char start = text.charAt(p);
            String pattern = start == 't' ? "t#m#v#s#;" : start == 'a' ? "a#;" : start == 'd' ? "d#;" : null;
            int[][] ranges = start == 't' ? new int[][] {{0, 7}, {0, 3}, {1, 380}, {0, 1}}
                    : start == 'a' ? new int[][] {{0, 15}} : new int[][] {{1, 99}};
            if (pattern == null) {
                return p;
            }
            int[] act = new int[5];
            act[0] = start;
            int n = 0;
            for (char want : pattern.toCharArray()) {
                if (want != '#') {
                    if (p >= text.length() || text.charAt(p) != want) {
                        return p;
                    }
                    p++;
                    continue;
                }
                String digits = text.substring(p).replaceAll("(?s)[^0-9].*", "");
                digits = digits.substring(0, Math.min(3, digits.length()));
                if (digits.startsWith("0")) {
                    digits = "0";
                }
                if (digits.isEmpty()) {
                    return p;
                }
                int value = Integer.parseInt(digits);
                if (!in(value, ranges[n][0], ranges[n][1])) {
                    return p;
                }
                act[++n] = value;
                p += digits.length();
            }
            acts.add(act);
        }
        return NONE;
    }

    int faultPosition() {
        return parse(new ArrayList<>());
    }

    int run() {
        List<int[]> acts = new ArrayList<>();
        if (parse(acts) != NONE) {
            return NOT_POSSIBLE;
        }
        record();
        inRun = true;
        int n = 0;
        for (int[] a : acts) {
            int r = a[0] == 't' ? transfer(a[1], a[2], a[3], a[4]) : a[0] == 'a' ? answer(a[1]) : passDays(a[1]);
            if (r < 0) {
                break;
            }
            n++;
        }
        inRun = false;
        return n;
    }

    int undo() {
        if (history.isEmpty()) {
            return NOT_POSSIBLE;
        }
        s = history.removeLast();
        return history.size();
    }

    int save(int slot) {
        if (!in(slot, 0, 1)) {
            return BAD_INDEX;
        }
        slots[slot] = s.copy();
        return s.today;
    }

    int restore(int slot) {
        if (!in(slot, 0, 1)) {
            return BAD_INDEX;
        }
        if (slots[slot] == null) {
            return NOT_POSSIBLE;
        }
        record();
        s = slots[slot].copy();
        return s.today;
    }

    private static int choose(int property, int... values) {
        return in(property, 0, values.length - 1) ? values[property] : BAD_VALUE;
    }

    int carrier(int carrier, int property) {
        if (!has(s.carriers, carrier)) {
            return BAD_INDEX;
        }
        Carrier c = s.carriers.get(carrier);
        int recordings = (int) s.recordings.stream().filter(r -> r.carrier == carrier).count();
        return choose(property, c.kind, c.speed, c.layout, c.length, c.plays[0], madeOf(carrier), recordings);
    }

    int machine(int machine, int property) {
        if (!has(s.machines, machine)) {
            return BAD_INDEX;
        }
        Machine m = s.machines.get(machine);
        int passes = (int) s.passes.stream().filter(p -> p.machine == machine).count();
        return choose(property, m.kind, m.speeds, m.head, m.quality, m.time[0], passes);
    }

    int recording(int recording, int property) {
        if (!has(s.recordings, recording)) {
            return BAD_INDEX;
        }
        Recording r = s.recordings.get(recording);
        int side = sidesOf(s.carriers.get(r.carrier).layout, r.tracks).iterator().next();
        return choose(property, r.carrier, r.tracks, r.from, r.to, side, r.parts.size());
    }

    int part(int recording, int part, int property) {
        if (!has(s.recordings, recording) || !has(s.recordings.get(recording).parts, part)) {
            return BAD_INDEX;
        }
        Part p = s.recordings.get(recording).parts.get(part);
        return choose(property, p.from, p.to, p.holder, p.free, s.today < p.free ? 1 : 0);
    }

    int pass(int pass, int property) {
        if (!has(s.passes, pass)) {
            return BAD_INDEX;
        }
        Pass p = s.passes.get(pass);
        int set = 0;
        int back = 0;
        for (int t = 0; t < p.captures.length; t++) {
            if (p.captures[t] > 0) {
                set += 1 << t;
                if (SIDES[s.carriers.get(p.carrier).layout][t] != p.side) {
                    back += 1 << t;
                }
            }
        }
        return choose(property, p.carrier, p.machine, p.speed, p.side, p.day, set, back);
    }

    int captured(int pass, int track) {
        if (!has(s.passes, pass) || !in(track, 0, s.passes.get(pass).captures.length - 1)) {
            return BAD_INDEX;
        }
        return s.passes.get(pass).captures[track];
    }

    private int least(int tracks, int[] captures) {
        return bits(tracks).stream().mapToInt(t -> captures[t]).min().getAsInt();
    }

    int quality(int pass, int recording) {
        if (!has(s.passes, pass) || !has(s.recordings, recording)) {
            return BAD_INDEX;
        }
        Pass p = s.passes.get(pass);
        Recording r = s.recordings.get(recording);
        return p.carrier == r.carrier ? least(r.tracks, p.captures) : 0;
    }

    int bestPass(int recording) {
        if (!has(s.recordings, recording)) {
            return BAD_INDEX;
        }
        List<Integer> covering = new ArrayList<>();
        for (int p = 0; p < s.passes.size(); p++) {
            if (quality(p, recording) > 0) {
                covering.add(p);
            }
        }
        covering.sort(Comparator.comparingInt((Integer p) -> -quality(p, recording)).thenComparingInt(p -> p));
        return covering.isEmpty() ? NONE : covering.get(0);
    }

    int permission(int permission, int property) {
        if (!has(s.permissions, permission)) {
            return BAD_INDEX;
        }
        Permission p = s.permissions.get(permission);
        return choose(property, p.holder, p.user, p.use, p.until, p.revoked[0] ? 1 : 0);
    }

    int requested(int request, int property) {
        if (!has(s.requests, request)) {
            return BAD_INDEX;
        }
        Request r = s.requests.get(request);
        return choose(property, r.state, r.user, r.recording, r.from, r.to, r.use, r.quality, r.due, r.pass, r.fee);
    }

    int lacking(int user, int recording, int from, int to, int use) {
        int e = checkExcerpt(user, recording, from, to, use);
        if (e != 0) {
            return e;
        }
        int set = 0;
        List<Part> parts = s.recordings.get(recording).parts;
        for (int k = 0; k < parts.size(); k++) {
            Part p = parts.get(k);
            boolean concerns = false;
            for (int t = from; t < to; t++) {
                concerns |= p.from <= t && t < p.to;
            }
            boolean permitted = s.permissions.stream().anyMatch(x -> !x.revoked[0] && x.holder == p.holder
                    && x.user == user && use <= x.use && s.today <= x.until);
            if (concerns && s.today < p.free && p.holder != user && !permitted) {
                set += 1 << k;
            }
        }
        return set;
    }

    int fee(int user, int recording, int from, int to, int use) {
        int e = checkExcerpt(user, recording, from, to, use);
        return e != 0 ? e : Arrays.stream(feesByHolder(user, recording, from, to, use)).sum();
    }

    int income(int person) {
        return in(person, 0, 7) ? s.income[person] : BAD_VALUE;
    }

    int paid(int person) {
        return in(person, 0, 7) ? s.paid[person] : BAD_VALUE;
    }

    int next(int place) {
        if (place < 0) {
            return BAD_VALUE;
        }
        List<Request> open = new ArrayList<>(s.requests.stream().filter(r -> r.state == 0).toList());
        open.sort(Comparator.comparingInt((Request r) -> r.due).thenComparingInt(r -> -r.use)
                .thenComparingInt(r -> -r.quality).thenComparingInt(r -> r.number));
        return place < open.size() ? open.get(place).number : NONE;
    }

    int total(int property) {
        return choose(property, s.today, s.carriers.size(), s.machines.size(), s.recordings.size(), s.passes.size(),
                s.permissions.size(), s.requests.size(), countState(0), countState(1), countState(2), countState(3),
                s.reason, history.size(), text.length());
    }

    int heard(int carrier, int machine, int speed, int side, int track) {
        if (!has(s.carriers, carrier) || !has(s.machines, machine) || !in(track, 0, tracksOf(carrier) - 1)) {
            return BAD_INDEX;
        }
        Machine m = s.machines.get(machine);
        if (!speedFits(m, speed) || !in(side, 0, 1)) {
            return BAD_VALUE;
        }
        return m.kind != s.carriers.get(carrier).kind ? NOT_POSSIBLE : capture(carrier, m, speed, side, track);
    }

    int duration(int carrier, int speed) {
        if (!has(s.carriers, carrier)) {
            return BAD_INDEX;
        }
        Carrier c = s.carriers.get(carrier);
        return SPEEDS.get(c.kind).contains(speed) ? time(c, speed) : BAD_VALUE;
    }

    record Candidate(int machine, int speed, int side, int[] captures) {
    }

    private List<Candidate> candidates(int carrier) {
        List<Candidate> list = new ArrayList<>();
        for (int m = 0; m < s.machines.size(); m++) {
            Machine x = s.machines.get(m);
            if (x.kind == s.carriers.get(carrier).kind) {
                for (int speed : SPEEDS.get(x.kind)) {
                    for (int side = 0; side < 2 && speedFits(x, speed); side++) {
                        list.add(new Candidate(m, speed, side, captures(carrier, x, speed, side)));
                    }
                }
            }
        }
        return list;
    }

    int planned(int recording, int property) {
        if (!has(s.recordings, recording)) {
            return BAD_INDEX;
        }
        if (!in(property, 0, 4)) {
            return BAD_VALUE;
        }
        Recording r = s.recordings.get(recording);
        Carrier c = s.carriers.get(r.carrier);
        List<Candidate> list = candidates(r.carrier);
        list.removeIf(x -> least(r.tracks, x.captures) == 0 || c.plays[0] < cost(c, x.speed));
        if (list.isEmpty()) {
            return NONE;
        }
        list.sort(Comparator.comparingInt((Candidate x) -> -least(r.tracks, x.captures))
                .thenComparingInt(x -> time(c, x.speed)).thenComparingInt(x -> x.machine)
                .thenComparingInt(x -> x.speed).thenComparingInt(x -> x.side));
        Candidate best = list.get(0);
        return choose(property, best.machine, best.speed, best.side, least(r.tracks, best.captures),
                time(c, best.speed));
    }

    int fewestPasses(int carrier, int quality) {
        if (!has(s.carriers, carrier)) {
            return BAD_INDEX;
        }
        if (!in(quality, 1, 100)) {
            return BAD_VALUE;
        }
        int all = 0;
        Set<Integer> covers = new TreeSet<>();
        for (Candidate x : candidates(carrier)) {
            int set = 0;
            for (int r = 0; r < s.recordings.size(); r++) {
                Recording y = s.recordings.get(r);
                if (y.carrier == carrier && least(y.tracks, x.captures) >= quality) {
                    set |= 1 << r;
                }
            }
            covers.add(set);
        }
        for (int r = 0; r < s.recordings.size(); r++) {
            all |= s.recordings.get(r).carrier == carrier ? 1 << r : 0;
        }
        List<Integer> list = new ArrayList<>(covers);
        for (int n = 0; n <= list.size(); n++) {
            if (canCover(list, 0, n, all)) {
                return n;
            }
        }
        return NONE;
    }

    private static boolean canCover(List<Integer> covers, int from, int n, int left) {
        if (left == 0) {
            return true;
        }
        for (int i = from; n > 0 && i < covers.size(); i++) {
            if (canCover(covers, i + 1, n - 1, left & ~covers.get(i))) {
                return true;
            }
        }
        return false;
    }
}
