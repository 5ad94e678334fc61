import java.lang.reflect.Method;
import java.util.ArrayList;
import java.util.Arrays;
import java.util.List;
import java.util.Map;
import java.util.TreeMap;

/**
 * Long runs of calls, wrong arguments among them, each answer compared with the model's.
 * The numbers come from a fixed sequence, so that a run that fails can be made again.
 */
public final class ModelTest {
    private static final int RUNS = 4000;
    private static final int CALLS = 512;

    private static final int[][] SPEEDS = {{33, 45, 78}, {95, 190, 380}, {48}};
    private static final int[][] LAYOUTS = {{1, 3}, {0, 1, 2}, {1, 3}};
    private static final int[] ODD = {
        -1, -2, Integer.MIN_VALUE, Integer.MAX_VALUE, 3, 4, 5, 7, 8, 9, 16, 24, 32, 64, 100, 101, 3600, 3601, 9999,
        10000, 1 << 30, -100};

    private static final Map<String, Integer> SEEN = new TreeMap<>();
    private static final Map<String, Method> REAL = new TreeMap<>();
    private static final Map<String, Method> MODELLED = new TreeMap<>();

    private long seed;
    private final SoundArchive real = new SoundArchive();
    private final Model model = new Model();
    private final int theme;
    private final List<String> told = new ArrayList<>();
    private boolean isWrong = false;

    private ModelTest(int run) {
        seed = run * 7919L + 13;
        theme = run % 7;
    }

    private int below(int n) {
        seed = seed * 6364136223846793005L + 1442695040888963407L;
        return (int) Math.floorMod(seed >>> 33, (long) Math.max(1, n));
    }

    private boolean chance(int percent) {
        return below(100) < percent;
    }

    private int odd(int value) {
        return chance(2) ? ODD[below(ODD.length)] : value;
    }

    private int of(int[] values) {
        return values[below(values.length)];
    }

    private int index(int count) {
        return odd(chance(2) ? count : below(count));
    }

    private int kind() {
        return theme == 0 ? below(3) : theme == 5 ? below(2) : chance(90) ? 1 : below(3);
    }

    private int day() {
        return model.s.today + below(chance(40) ? 300 : 60) - (chance(20) ? 20 : 0);
    }

    private int machineSpeed(int machine) {
        if (machine < 0 || machine >= model.s.machines.size()) {
            return 48;
        }
        int[] speeds = SPEEDS[model.s.machines.get(machine).kind()];
        return odd(of(speeds));
    }

    private int person() {
        return odd(chance(80) ? below(3) : below(8));
    }

    /** A stretch of a length, often one that touches an edge. */
    private int[] stretch(int length) {
        int from = chance(20) ? 0 : below(length);
        int to = chance(20) ? length : from + 1 + below(chance(50) ? 5 : length - from);
        if (chance(2)) {
            to = from - below(2);
        }
        if (chance(1)) {
            to = length + 1;
        }
        if (chance(1)) {
            from = -1;
        }
        return new int[] {odd(from), odd(to)};
    }

    private int lengthOf(int recording) {
        return recording >= 0 && recording < model.s.recordings.size() ? model.s.recordings.get(recording).length() : 9;
    }

    private void carrierCall() {
        int kind = kind();
        int length = chance(40) ? 3600 - below(50) : 1 + below(theme == 2 ? 20 : 400);
        int plays = chance(theme == 3 ? 80 : 20) ? 1 + below(5) : 60 + below(40);
        call("addCarrier", odd(kind), odd(of(SPEEDS[kind])), odd(chance(3) ? below(4) : of(LAYOUTS[kind])), odd(length),
                odd(plays));
    }

    private void machineCall() {
        int kind = kind();
        int speeds = kind == 2 ? 1 : chance(60) ? 7 : 1 + below(7);
        int quality = chance(25) ? 1 + below(12) : 60 + below(41);
        call("addMachine", odd(kind), odd(chance(2) ? below(9) : speeds), odd(chance(3) ? below(4) : of(LAYOUTS[kind])),
                odd(quality));
    }

    private void recordingCall() {
        int carrier = index(model.s.carriers.size());
        boolean known = carrier >= 0 && carrier < model.s.carriers.size();
        int length = known ? model.s.carriers.get(carrier).length() : 10;
        int[] part = stretch(length);
        if (chance(70)) {
            part[0] = below(length);
            part[1] = part[0] + 1 + below(Math.min(length - part[0], 1 + length / 12));
        }
        int[][] sets = {{1}, {1, 2}, {1, 2, 4, 8, 5, 10}, {1, 2, 4, 8, 3, 12}};
        int tracks = known && chance(90) ? of(sets[model.s.carriers.get(carrier).layout()]) : below(17);
        call("addRecording", carrier, odd(tracks), part[0], part[1]);
    }

    private void partCall() {
        int recording = index(model.s.recordings.size());
        int[] part = stretch(lengthOf(recording));
        call("addPart", recording, part[0], part[1], person(), odd(chance(1) ? 9999 + below(2) : Math.max(0, day())));
    }

    private void transferCall() {
        int machine = index(model.s.machines.size());
        call("transfer", index(model.s.carriers.size()), machine, machineSpeed(machine), odd(below(2)));
    }

    private void requestCall() {
        int recording = index(model.s.recordings.size());
        int[] part = stretch(lengthOf(recording));
        int quality = chance(5) ? below(103) - 1 : 1 + below(chance(60) ? 8 : 60);
        call("request", person(), recording, part[0], part[1], odd(below(3)), odd(quality));
    }

    private void answerCall() {
        int request = index(model.s.requests.size());
        call("answer", request);
        if (chance(40)) {
            call("requested", request, 8 + below(2));
            call("income", person());
            call("paid", person());
        }
    }

    private void excerptCall(String name) {
        int recording = index(model.s.recordings.size());
        int[] part = stretch(lengthOf(recording));
        call(name, person(), recording, part[0], part[1], odd(below(3)));
    }

    private void appendAll(String text) {
        for (char c : text.toCharArray()) {
            call("append", (int) c);
        }
    }

    private void textCall() {
        if (chance(30)) {
            call("clearText");
        }
        int acts = chance(10) ? 14 : below(4);
        for (int i = 0; i < acts; i++) {
            int machine = below(model.s.machines.size());
            switch (below(3)) {
                case 0:
                    appendAll("t" + below(Math.max(model.s.carriers.size(), 2)) + "m" + machine + "v"
                            + machineSpeed(machine) % 1000 + "s" + below(2) + ";");
                    break;
                case 1:
                    appendAll("a" + below(model.s.requests.size() + 1) + ";");
                    break;
                default:
                    appendAll("d" + (chance(80) ? 1 + below(4) : below(200)) + ";");
                    break;
            }
        }
        if (chance(25)) {
            String bits = "tmvsad;;0123456789 00";
            for (int i = 1 + below(3); i > 0; i--) {
                call("append", odd((int) bits.charAt(below(bits.length()))));
            }
        }
        call("faultPosition");
        call("run");
        if (chance(60)) {
            call("clearText");
        }
    }

    private void changeCall() {
        int grow = model.history.size() == 0 ? 40 : 22;
        int pick = below(100);
        if (pick < 4) {
            carrierCall();
        } else if (pick < 8) {
            machineCall();
        } else if (pick < 15) {
            recordingCall();
            if (theme == 1) {
                recordingCall();
            }
        } else if (pick < grow) {
            partCall();
        } else if (pick < 45) {
            transferCall();
        } else if (pick < 53) {
            call("permit", person(), person(), odd(below(3)), odd(Math.max(0, day())));
        } else if (pick < 55) {
            call("revoke", index(model.s.permissions.size()));
        } else if (pick < 65) {
            requestCall();
        } else if (pick < 69) {
            call("setDue", index(model.s.requests.size()), odd(chance(20) ? model.s.today - below(2) : day()));
        } else if (pick < 71) {
            call("withdraw", index(model.s.requests.size()));
        } else if (pick < 84) {
            answerCall();
        } else if (pick < 89) {
            call("passDays", odd(theme == 4 ? 99 - below(3) : 1 + below(chance(80) ? 3 : 60)));
        } else if (pick < 92) {
            textCall();
        } else if (pick < 96) {
            for (int i = chance(5) ? 6 : 1; i > 0; i--) {
                call("undo");
            }
        } else if (pick < 98) {
            call("save", odd(below(2)));
        } else {
            call("restore", odd(below(2)));
        }
    }

    private void lookCall() {
        int carrier = index(model.s.carriers.size());
        int machine = index(model.s.machines.size());
        int recording = index(model.s.recordings.size());
        int request = index(model.s.requests.size());
        int pass = index(model.s.passes.size());
        switch (below(20)) {
            case 0: call("carrier", carrier, odd(below(8))); break;
            case 1: call("machine", machine, odd(below(7))); break;
            case 2: call("recording", recording, odd(below(7))); break;
            case 3: call("part", recording, odd(below(3)), odd(below(6))); break;
            case 4: call("pass", pass, odd(below(8))); break;
            case 5: call("captured", pass, odd(below(5))); break;
            case 6: call("quality", pass, recording); break;
            case 7: call("bestPass", recording); break;
            case 8: call("permission", index(model.s.permissions.size()), odd(below(6))); break;
            case 9: call("requested", request, odd(below(11))); break;
            case 10: excerptCall("lacking"); break;
            case 11: excerptCall("fee"); break;
            case 12: call("income", person()); break;
            case 13: call("paid", person()); break;
            case 14: call("next", odd(below(10))); break;
            case 15: call("total", odd(below(15))); break;
            case 16: call("heard", carrier, machine, machineSpeed(machine), odd(below(2)), odd(below(5))); break;
            case 17: call("duration", carrier, odd(of(SPEEDS[below(3)]))); break;
            case 18: call("planned", recording, odd(below(6))); break;
            default: call("fewestPasses", carrier, odd(1 + below(chance(70) ? 10 : 100))); break;
        }
    }

    private void call(String name, Integer... arguments) {
        if (isWrong || told.size() >= CALLS) {
            return;
        }
        try {
            int got = (int) REAL.get(name).invoke(real, (Object[]) arguments);
            int want = (int) MODELLED.get(name).invoke(model, (Object[]) arguments);
            told.add(name + Arrays.toString(arguments) + " = " + got);
            SEEN.merge(name + (want >= 0 ? "" : " " + want), 1, Integer::sum);
            if (want > 0) {
                SEEN.merge(name + " above " + (want > 1 ? 1 : 0), 1, Integer::sum);
            }
            if (want == -5 && model.s.reason > 0) {
                SEEN.merge("reason " + model.s.reason, 1, Integer::sum);
            }
            isWrong = got != want;
            Check.due(name + Arrays.toString(arguments), got, want);
        } catch (ReflectiveOperationException e) {
            isWrong = true;
            Check.holds(name + Arrays.toString(arguments) + " threw " + e.getCause(), false);
        }
    }

    /** Fees are paid only where a good pass, protected parts and permissions meet. */
    private void startWithRights() {
        call("addCarrier", 1, 190, 0, 600, 99);
        call("addMachine", 1, 7, 0, 100);
        call("addRecording", 0, 1, 100, 600);
        call("transfer", 0, 0, 190, 0);
        for (int i = 0; i < 4; i++) {
            int from = below(400);
            call("addPart", 0, from, from + 1 + below(100), below(3), 1 + below(500));
            call("permit", below(3), below(3), 2, 1 + below(500));
            call("permit", i, 3, 2, 9999);
        }
        for (int i = 0; i < 4; i++) {
            int from = below(400);
            call("request", chance(50) ? 3 : below(4), 0, from, from + 1 + below(100), below(3), 1 + below(100));
            answerCall();
        }
    }

    private void go(int run) {
        if (theme == 4 && chance(60)) {
            for (int i = 0; i < 101; i++) {
                call("passDays", 99);
            }
        }
        if (theme == 6) {
            startWithRights();
        }
        for (int i = below(4); i >= 0; i--) {
            carrierCall();
            machineCall();
            recordingCall();
        }
        while (told.size() < CALLS && !isWrong) {
            if (chance(60)) {
                changeCall();
            } else {
                lookCall();
            }
        }
        if (isWrong) {
            System.out.println("in run " + run + ", whose last calls were");
            told.subList(Math.max(0, told.size() - 12), told.size()).forEach(System.out::println);
        }
    }

    /** A comparison proves little of an answer that hardly ever came. */
    private static void checkThatAllWasSeen() {
        String seen = "addCarrier addMachine addRecording addPart transfer permit revoke request setDue withdraw answer "
                + "passDays append clearText faultPosition run undo save restore carrier machine recording part pass "
                + "captured quality bestPass permission requested lacking fee income paid next total heard duration "
                + "planned fewestPasses";
        String errors = "addCarrier -2,addCarrier -4,addMachine -2,addMachine -4,addRecording -1,addRecording -2,"
                + "addRecording -3,addRecording -4,addPart -1,addPart -2,addPart -4,transfer -1,transfer -2,transfer -5,"
                + "permit -2,permit -4,revoke -1,revoke -3,request -1,request -2,request -4,setDue -1,setDue -2,"
                + "setDue -3,withdraw -1,withdraw -3,answer -1,answer -5,passDays -2,passDays -3,append -2,append -4,"
                + "faultPosition -6,run -3,undo -3,save -1,restore -1,restore -3,carrier -1,carrier -2,machine -1,"
                + "machine -2,recording -1,recording -2,part -1,part -2,pass -1,pass -2,captured -1,quality -1,"
                + "bestPass -1,bestPass -6,permission -1,permission -2,requested -1,requested -2,requested -6,"
                + "lacking -1,lacking -2,fee -1,fee -2,income -2,paid -2,next -2,next -6,total -2,heard -1,heard -2,"
                + "heard -3,duration -1,duration -2,planned -1,planned -2,planned -6,fewestPasses -1,fewestPasses -2,"
                + "fewestPasses -6,fewestPasses above 0,fewestPasses above 1,fee above 1,income above 1,"
                + "paid above 1,lacking above 0,lacking above 1,passDays above 0,run above 0,run above 1,quality above 1,"
                + "heard above 1,bestPass above 1,next above 1,reason 1,reason 2,reason 3,reason 4,reason 5,reason 6,reason 7,reason 8,reason 9";
        for (String name : (seen.replace(' ', ',') + "," + errors).split(",")) {
            Check.holds("the runs came to '" + name + "' " + SEEN.getOrDefault(name, 0) + " times; 20 or more",
                    SEEN.getOrDefault(name, 0) >= 20);
        }
    }

    public static void main(String[] args) {
        for (Method m : SoundArchive.class.getDeclaredMethods()) {
            if (java.lang.reflect.Modifier.isPublic(m.getModifiers())) {
                REAL.put(m.getName(), m);
            }
        }
        for (Method m : Model.class.getDeclaredMethods()) {
            if (REAL.containsKey(m.getName())) {
                MODELLED.put(m.getName(), m);
            }
        }
        int wrongRuns = 0;
        for (int run = 0; run < RUNS && wrongRuns < 3; run++) {
            ModelTest test = new ModelTest(run);
            test.go(run);
            wrongRuns += test.isWrong ? 1 : 0;
        }
        if (wrongRuns == 0) {
            checkThatAllWasSeen();
        }
        if (args.length > 1) {
            System.out.println(SEEN);
        }
        Check.finish();
    }
}
