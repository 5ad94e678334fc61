import java.util.ArrayList;
import java.util.List;

/**
 * What the tests of single cases share. Each case begins with an archive of its own, so that no
 * case leans on another, and no object is asked more than the 512 calls that the document names.
 */
abstract class Edges {
    static final int BAD_INDEX = SoundArchive.BAD_INDEX, BAD_VALUE = SoundArchive.BAD_VALUE;
    static final int NOT_POSSIBLE = SoundArchive.NOT_POSSIBLE, FULL = SoundArchive.FULL;
    static final int REFUSED = SoundArchive.REFUSED, NONE = SoundArchive.NONE;
    static final int DISC = 0, REEL = 1, CASSETTE = 2;
    static final int FULL_TRACK = 0, HALF_TRACK = 1, QUARTER_TRACK = 2, PAIRED_TRACK = 3;
    static final int LISTEN = 0, COPY = 1, BROADCAST = 2;
    static final int LOW = Integer.MIN_VALUE, HIGH = Integer.MAX_VALUE;
    static final int[][] SPEEDS = {{33, 45, 78}, {95, 190, 380}, {48}};
    static final int[][] LAYOUTS = {{1, 3}, {0, 1, 2}, {1, 3}};
    static final int MOST_STATES = 5;
    private static final int REASON = 11;

    interface Build {
        SoundArchive make();
    }

    interface Call {
        int on(SoundArchive x);
    }

    interface CallWith {
        int on(SoundArchive x, int value);
    }

    static boolean has(int[] all, int value) {
        for (int one : all) {
            if (one == value) {
                return true;
            }
        }
        return false;
    }

    // ---- archives to begin with

    static Build empty() {
        return SoundArchive::new;
    }

    /** What a build makes, after more calls. */
    static Build after(Build build, Call... calls) {
        return () -> {
            SoundArchive x = build.make();
            for (Call call : calls) {
                call.on(x);
            }
            return x;
        };
    }

    static Call times(int count, Call call) {
        return x -> {
            int last = 0;
            for (int i = 0; i < count; i++) {
                last = call.on(x);
            }
            return last;
        };
    }

    static Call text(String text) {
        return x -> {
            for (char c : text.toCharArray()) {
                x.append(c);
            }
            return text.length();
        };
    }

    /** Today becomes the given day. */
    static Call toDay(int day) {
        return x -> {
            for (int left = day - x.total(0); left > 0; left -= 99) {
                x.passDays(Math.min(99, left));
            }
            return day;
        };
    }

    /**
     * Something of everything: requests in each state, a reason, five states in the history, two
     * slots with different states, and a text that has begun.
     */
    static SoundArchive rich() {
        SoundArchive x = new SoundArchive();
        x.addCarrier(REEL, 190, HALF_TRACK, 600, 9);
        x.addCarrier(DISC, 45, PAIRED_TRACK, 100, 3);
        x.addMachine(REEL, 7, QUARTER_TRACK, 90);
        x.addMachine(DISC, 7, PAIRED_TRACK, 80);
        x.addRecording(0, 1, 50, 150);
        x.addRecording(0, 2, 0, 600);
        x.addRecording(1, 3, 0, 40);
        x.addPart(0, 0, 60, 1, 40);
        x.addPart(0, 50, 100, 2, 50);
        x.save(0);
        x.transfer(0, 0, 190, 0);
        x.permit(1, 0, BROADCAST, 30);
        x.permit(2, 0, COPY, 60);
        x.permit(3, 4, LISTEN, 5);
        x.revoke(2);
        x.request(0, 0, 10, 55, COPY, 40);
        x.request(2, 1, 0, 9, BROADCAST, 10);
        x.request(5, 0, 0, 9, BROADCAST, 50);
        x.request(6, 0, 0, 9, LISTEN, 10);
        x.request(7, 0, 0, 100, COPY, 1);
        x.answer(0);
        x.withdraw(2);
        x.setDue(4, 0);
        x.passDays(1);
        x.save(1);
        x.transfer(1, 1, 45, 1);
        x.answer(3);
        x.append('d');
        x.append('1');
        return x;
    }

    /**
     * Things that belong together have different numbers: recording 3 lies on carrier 2, its best
     * pass 2 was made on machine 1 on day 5, and request 1 of person 2 is for it. Next to them stand others.
     */
    static SoundArchive unlike() {
        SoundArchive x = new SoundArchive();
        x.addCarrier(CASSETTE, 48, PAIRED_TRACK, 60, 9);
        x.addCarrier(DISC, 45, HALF_TRACK, 100, 5);
        x.addCarrier(REEL, 190, QUARTER_TRACK, 600, 20);
        x.addMachine(CASSETTE, 1, PAIRED_TRACK, 70);
        x.addMachine(REEL, 7, QUARTER_TRACK, 90);
        x.addRecording(0, 1, 0, 10);
        x.addRecording(1, 1, 5, 50);
        x.addRecording(1, 2, 0, 100);
        x.addRecording(2, 8, 100, 300);
        x.addRecording(2, 1, 7, 20);
        x.addPart(2, 0, 100, 3, 50);
        x.addPart(3, 0, 50, 5, 30);
        x.addPart(3, 40, 200, 6, 40);
        x.addPart(4, 0, 13, 4, 99);
        x.passDays(4);
        x.transfer(0, 0, 48, 1);
        x.passDays(1);
        x.transfer(2, 1, 95, 0);
        x.transfer(2, 1, 190, 1);
        x.permit(5, 2, COPY, 20);
        x.permit(6, 2, COPY, 10);
        x.permit(6, 1, LISTEN, 60);
        x.permit(4, 3, BROADCAST, 80);
        x.request(7, 4, 0, 5, LISTEN, 20);
        x.request(2, 3, 45, 60, COPY, 80);
        x.request(1, 3, 60, 70, COPY, 30);
        x.request(1, 3, 60, 70, LISTEN, 30);
        x.request(3, 4, 2, 9, BROADCAST, 45);
        x.request(0, 0, 0, 1, LISTEN, 1);
        return x;
    }

    // ---- looking at all that can be seen

    private static List<Integer> things(SoundArchive x, boolean withReason) {
        List<Integer> all = new ArrayList<>();
        for (int k = 0; k <= REASON; k++) {
            if (k != REASON || withReason) {
                all.add(x.total(k));
            }
        }
        for (int carrier = 0; carrier < x.total(1); carrier++) {
            for (int k = 0; k <= 6; k++) {
                all.add(x.carrier(carrier, k));
            }
        }
        for (int machine = 0; machine < x.total(2); machine++) {
            for (int k = 0; k <= 5; k++) {
                all.add(x.machine(machine, k));
            }
        }
        for (int person = 0; person <= 7; person++) {
            all.add(x.income(person));
            all.add(x.paid(person));
        }
        return all;
    }

    private static List<Integer> recordings(SoundArchive x) {
        List<Integer> all = new ArrayList<>();
        int count = x.total(3);
        for (int recording = 0; recording < count; recording++) {
            for (int k = 0; k <= 5; k++) {
                all.add(x.recording(recording, k));
            }
            int parts = x.recording(recording, 5);
            for (int part = 0; part < parts; part++) {
                for (int k = 0; k <= 4; k++) {
                    all.add(x.part(recording, part, k));
                }
            }
        }
        return all;
    }

    private static List<Integer> passes(SoundArchive x) {
        List<Integer> all = new ArrayList<>();
        int count = x.total(4);
        for (int pass = 0; pass < count; pass++) {
            for (int k = 0; k <= 6; k++) {
                all.add(x.pass(pass, k));
            }
            for (int track = 0; track <= 3; track++) {
                all.add(x.captured(pass, track));
            }
        }
        return all;
    }

    private static List<Integer> rights(SoundArchive x) {
        List<Integer> all = new ArrayList<>();
        int permissions = x.total(5);
        for (int permission = 0; permission < permissions; permission++) {
            for (int k = 0; k <= 4; k++) {
                all.add(x.permission(permission, k));
            }
        }
        int requests = x.total(6);
        for (int request = 0; request < requests; request++) {
            for (int k = 0; k <= 9; k++) {
                all.add(x.requested(request, k));
            }
            all.add(x.next(request));
        }
        return all;
    }

    /** All of the present state. */
    static List<List<Integer>> state(Build build, boolean withReason) {
        return List.of(things(build.make(), withReason), recordings(build.make()), passes(build.make()),
                rights(build.make()));
    }

    /** The text and what the slots hold. */
    private static List<List<Integer>> besides(Build build) {
        SoundArchive x = build.make();
        List<List<Integer>> all = new ArrayList<>();
        all.add(List.of(x.total(13), x.faultPosition()));
        for (int slot = 0; slot <= 1; slot++) {
            int chosen = slot;
            int answer = build.make().restore(chosen);
            all.add(List.of(answer));
            if (answer >= 0) {
                all.addAll(state(after(build, y -> y.restore(chosen)), true));
            }
        }
        return all;
    }

    /** The present state, the states of the history, the text and what the slots hold. */
    private static List<List<Integer>> everything(Build build, boolean withReason) {
        List<List<Integer>> all = new ArrayList<>(state(build, withReason));
        all.add(List.of(build.make().total(12)));
        for (int undone = 1; undone <= MOST_STATES + 1; undone++) {
            Call undoing = times(undone, SoundArchive::undo);
            all.add(List.of(undoing.on(build.make())));
            if (undone <= build.make().total(12)) {
                all.addAll(state(after(build, undoing), true));
            }
        }
        all.addAll(besides(build));
        return all;
    }

    // ---- cases

    static void due(String name, Build build, Call call, int due) {
        Check.due(name, call.on(build.make()), due);
    }

    /** The call answers what is due, and nothing that can be seen is different afterwards. */
    static void keeps(String name, Build build, Call call, int due) {
        due(name, build, call, due);
        Check.holds(name + ": changes nothing", everything(build, true).equals(everything(after(build, call), true)));
    }

    /** The call is refused for a reason, and nothing but the reason is different afterwards. */
    static void refused(String name, Build build, Call call, int reason) {
        due(name, build, call, REFUSED);
        due(name + ": the reason", after(build, call), x -> x.total(REASON), reason);
        Check.holds(name + ": changes nothing but the reason",
                everything(build, false).equals(everything(after(build, call), false)));
    }

    /** The call answers what is due and is recorded once: with the state ahead of it, and nothing else. */
    static void recorded(String name, Build build, Call call, int due) {
        due(name, build, call, due);
        int before = build.make().total(12);
        Build done = after(build, call);
        int kept = Math.min(MOST_STATES, before + 1);
        due(name + ": it is recorded", done, x -> x.total(12), kept);
        due(name + ": it can be undone", done, x -> x.undo(), kept - 1);
        for (int undone = 1; undone <= kept; undone++) {
            Check.holds(name + ": " + undone + " undone",
                    state(after(build, times(undone - 1, SoundArchive::undo)), true)
                            .equals(state(after(done, times(undone, SoundArchive::undo)), true)));
        }
        due(name + ": there is no older state", done, times(kept + 1, SoundArchive::undo), NOT_POSSIBLE);
        Check.holds(name + ": the text and the slots stay", besides(build).equals(besides(done)));
    }

    /** The call is recorded and leaves the reason, as it is neither a pass nor an answer. */
    static void recordedWithTheReason(String name, Call call, int due) {
        recorded(name, Edges::rich, call, due);
        due(name + ": the reason stays", after(Edges::rich, call), x -> x.total(REASON), 9);
    }

    /** The values of an argument: both ends are right, what is beyond them is an error. */
    static void range(String name, int low, int high, int due, int error, Build build, CallWith call) {
        due(name + " of " + low, build, x -> call.on(x, low), due);
        due(name + " of " + high, build, x -> call.on(x, high), due);
        outside(name, error, build, call, low - 1, high + 1, LOW, HIGH);
    }

    static void outside(String name, int error, Build build, CallWith call, int... values) {
        for (int value : values) {
            keeps(name + " of " + value, build, x -> call.on(x, value), error);
        }
    }

    /** All properties from 0 on, and that there are no others. */
    static void properties(String name, Build build, CallWith call, int... due) {
        for (int property = 0; property < due.length; property++) {
            int chosen = property;
            keeps(name + ", property " + property, build, x -> call.on(x, chosen), due[property]);
        }
        outside(name + ", property", BAD_VALUE, build, call, -1, due.length, LOW, HIGH);
    }

    /** Numbers of things are known from 0 to the last one. */
    static void numbers(String name, int count, Build build, CallWith call) {
        if (count > 0) {
            Check.holds(name + " 0 is known", call.on(build.make(), 0) != BAD_INDEX);
            Check.holds(name + " " + (count - 1) + " is known", call.on(build.make(), count - 1) != BAD_INDEX);
        }
        outside(name, BAD_INDEX, build, call, -1, count, count + 1, LOW, HIGH);
    }
}
