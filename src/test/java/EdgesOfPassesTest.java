/** Promises 6, 25 to 28 and 37 to 40: each boundary that a sentence names, alone on a fresh archive. */
public final class EdgesOfPassesTest extends Edges {
    /** A reel of 190, half track, with a recording on each side, and a machine of the same layout. */
    private static Build reel(int length, int plays, int quality) {
        return after(empty(), x -> x.addCarrier(REEL, 190, HALF_TRACK, length, plays),
                x -> x.addMachine(REEL, 7, HALF_TRACK, quality), x -> x.addRecording(0, 1, 0, 1), x -> x.addRecording(0, 2, 0, 1));
    }

    private static Build pair(int kind, int speed, int layout, int length, int head, int quality) {
        return after(empty(), x -> x.addCarrier(kind, speed, layout, length, 99),
                x -> x.addMachine(kind, kind == CASSETTE ? 1 : 7, head, quality));
    }

    /** Passes of a cassette, each of so many seconds. */
    private static Build passes(int count, int seconds, int plays) {
        return after(empty(), x -> x.addCarrier(CASSETTE, 48, HALF_TRACK, seconds, plays),
                x -> x.addMachine(CASSETTE, 1, HALF_TRACK, 100), x -> x.addRecording(0, 1, 0, 1),
                times(count, x -> x.transfer(0, 0, 48, 0)));
    }

    // ---- promise 6

    private static void argumentsOfPasses() {
        numbers("6: carrier", 2, Edges::rich, (x, v) -> x.transfer(v, 0, 190, 0));
        numbers("6: machine", 2, Edges::rich, (x, v) -> x.transfer(0, v, 190, 0));
        keeps("6: no carrier at all", after(empty(), x -> x.addMachine(REEL, 7, HALF_TRACK, 9)),
                x -> x.transfer(0, 0, 95, 0), BAD_INDEX);
        keeps("6: no machine at all", after(empty(), x -> x.addCarrier(REEL, 95, HALF_TRACK, 9, 9)),
                x -> x.transfer(0, 0, 95, 0), BAD_INDEX);
        range("6: side", 0, 1, 2, BAD_VALUE, Edges::rich, (x, v) -> x.transfer(0, 0, 190, v));
        outside("6: speed", BAD_VALUE, Edges::rich, (x, v) -> x.transfer(0, 0, v, 0),
                0, -1, 94, 96, 189, 191, 379, 381, 33, 45, 78, 48, -190, LOW, HIGH);
        keeps("6: no carrier before a wrong speed", Edges::rich, x -> x.transfer(2, 0, 191, 0), BAD_INDEX);
        keeps("6: no machine before a wrong speed", Edges::rich, x -> x.transfer(0, 2, 191, 0), BAD_INDEX);
        keeps("6: no carrier before a wrong side", Edges::rich, x -> x.transfer(-1, 0, 190, 2), BAD_INDEX);
        keeps("6: no machine before a wrong side", Edges::rich, x -> x.transfer(0, -1, 190, 2), BAD_INDEX);
        keeps("6: a wrong side before another kind", Edges::rich, x -> x.transfer(0, 1, 45, 2), BAD_VALUE);
        keeps("6: a wrong speed before another kind", Edges::rich, x -> x.transfer(0, 1, 190, 0), BAD_VALUE);
        keeps("6: a wrong side before no play", passes(3, 9, 3), x -> x.transfer(0, 0, 48, -1), BAD_VALUE);
        keeps("6: a wrong speed before no room", passes(24, 9, 99), x -> x.transfer(0, 0, 47, 0), BAD_VALUE);
    }

    private static void speedsOfPasses() {
        for (int kind = 0; kind <= 2; kind++) {
            for (int speeds = 1; speeds <= (kind == CASSETTE ? 1 : 7); speeds++) {
                int own = kind;
                int set = speeds;
                Build build = after(empty(), x -> x.addCarrier(own, SPEEDS[own][0], HALF_TRACK, 9, 9),
                        x -> x.addMachine(own, set, HALF_TRACK, 100));
                for (int speed = 0; speed <= 400; speed++) {
                    int chosen = speed;
                    boolean isGood = false;
                    for (int k = 0; k < SPEEDS[kind].length; k++) {
                        isGood |= SPEEDS[kind][k] == speed && (speeds >> k & 1) == 1;
                    }
                    String name = "kind " + kind + " speeds " + speeds + " at " + speed;
                    due("6: " + name, build, x -> x.transfer(0, 0, chosen, 0), isGood ? 0 : BAD_VALUE);
                    int of = Math.max(SPEEDS[kind][0], speed);
                    due("37: " + name, build, x -> x.heard(0, 0, chosen, 0, 0),
                            isGood ? 100 * SPEEDS[kind][0] / of : BAD_VALUE);
                }
            }
        }
    }

    private static void otherKinds() {
        for (int kind = 0; kind <= 2; kind++) {
            for (int other = 0; other <= 2; other++) {
                int own = kind;
                int its = other;
                Build build = after(empty(), x -> x.addCarrier(own, SPEEDS[own][0], HALF_TRACK, 9, 9),
                        x -> x.addMachine(its, 1, HALF_TRACK, 100));
                if (own == its) {
                    recorded("6: its kind", build, x -> x.transfer(0, 0, SPEEDS[its][0], 0), 0);
                    due("37: its kind", build, x -> x.heard(0, 0, SPEEDS[its][0], 0, 0), 100);
                } else {
                    refused("6: another kind", build, x -> x.transfer(0, 0, SPEEDS[its][0], 0), 1);
                    keeps("37: another kind", build, x -> x.heard(0, 0, SPEEDS[its][0], 0, 0), NOT_POSSIBLE);
                }
            }
        }
    }

    private static void playsOfPasses() {
        int[][] costs = {{95, 1}, {190, 1}, {380, 2}};
        for (int[] cost : costs) {
            Call pass = x -> x.transfer(0, 0, cost[0], 0);
            String name = "6: plays at " + cost[0];
            recorded(name + ", just enough", reel(60, cost[1], 90), pass, 0);
            due(name + ", all used", after(reel(60, cost[1], 90), pass), x -> x.carrier(0, 4), 0);
            due(name + ", the rest", after(reel(60, 99, 90), pass), x -> x.carrier(0, 4), 99 - cost[1]);
            refused(name + ", none is left", after(reel(60, cost[1], 90), pass), pass, 2);
        }
        Build fast = after(reel(60, 9, 90), times(2, x -> x.transfer(0, 0, 380, 0)));
        properties("21: two plays a pass, but one pass", fast, (x, v) -> x.carrier(0, v), REEL, 190, HALF_TRACK, 60, 5, 2, 2);
        due("37: a fast pass wears like any other", fast, x -> x.heard(0, 0, 190, 0, 0), 88);
        due("22: a fast pass is one pass", fast, x -> x.machine(0, 5), 2);
        refused("6: one play for a fast pass", reel(60, 1, 90), x -> x.transfer(0, 0, 380, 0), 2);
        due("6: one play after two fast passes", after(reel(60, 5, 90), times(2, x -> x.transfer(0, 0, 380, 0))),
                x -> x.carrier(0, 4), 1);
        due("6: it is good for a slow one", after(reel(60, 5, 90), times(2, x -> x.transfer(0, 0, 380, 0))),
                x -> x.transfer(0, 0, 95, 0), 2);
    }

    /** Half of the day is used by a pass of 14400 seconds, or all of it by two. */
    private static Build used(int passes) {
        return after(empty(), x -> x.addCarrier(REEL, 380, HALF_TRACK, 3600, 99),
                x -> x.addMachine(REEL, 7, HALF_TRACK, 100), x -> x.addCarrier(REEL, 380, HALF_TRACK, 1, 99),
                x -> x.addCarrier(REEL, 380, HALF_TRACK, 3599, 99), x -> x.addCarrier(REEL, 380, HALF_TRACK, 3, 99),
                x -> x.addCarrier(REEL, 380, HALF_TRACK, 4, 99), times(passes, x -> x.transfer(0, 0, 95, 0)));
    }

    private static void timeOfPasses() {
        due("6: half of the day", used(1), x -> x.machine(0, 4), 14400);
        due("6: the other half, to the last second", used(1), x -> x.transfer(0, 0, 95, 1), 1);
        due("6: nothing is left", used(2), x -> x.machine(0, 4), 0);
        refused("6: not even for a second", used(2), x -> x.transfer(1, 0, 380, 0), 3);
        Build oneLess = after(used(1), x -> x.transfer(1, 0, 380, 0));
        due("6: a second less", oneLess, x -> x.machine(0, 4), 14399);
        refused("6: a second too few", oneLess, x -> x.transfer(0, 0, 95, 0), 3);
        Build three = after(oneLess, x -> x.transfer(2, 0, 95, 0));
        due("6: three are left", three, x -> x.machine(0, 4), 3);
        refused("6: four are needed", three, x -> x.transfer(4, 0, 380, 0), 3);
        recorded("6: three are needed", three, x -> x.transfer(3, 0, 380, 0), 3);
        Build other = after(used(2), x -> x.addMachine(REEL, 7, HALF_TRACK, 100));
        due("6: another machine has its own time", other, x -> x.transfer(0, 1, 95, 0), 2);
        due("6: all is left on the next day", after(used(2), x -> x.passDays(1)), x -> x.machine(0, 4), 28800);
        due("6: a day of two passes", after(used(2), x -> x.passDays(1), x -> x.transfer(0, 0, 95, 0)),
                x -> x.transfer(0, 0, 95, 0), 3);
        due("6: undo gives the time back", after(used(2), x -> x.undo()), x -> x.machine(0, 4), 14400);
    }

    private static void nothingCaptured() {
        refused("6: a full head on half tracks", pair(REEL, 95, HALF_TRACK, 9, FULL_TRACK, 100), x -> x.transfer(0, 0, 95, 0), 4);
        refused("6: a half head on four tracks", pair(CASSETTE, 48, PAIRED_TRACK, 9, HALF_TRACK, 100),
                x -> x.transfer(0, 0, 48, 1), 4);
        due("6: a capture of 1", reel(9, 9, 1), x -> x.transfer(0, 0, 190, 0), 0);
        refused("6: a half, rounded down", reel(9, 9, 1), x -> x.transfer(0, 0, 95, 0), 4);
        due("25: a capture of 1 is captured", after(reel(9, 9, 1), x -> x.transfer(0, 0, 190, 1)), x -> x.pass(0, 5), 2);
        due("25: one of four strips", after(pair(REEL, 95, FULL_TRACK, 9, QUARTER_TRACK, 4), x -> x.transfer(0, 0, 95, 1)),
                x -> x.pass(0, 5), 1);
        due("25: one of four strips, backwards", after(pair(REEL, 95, FULL_TRACK, 9, QUARTER_TRACK, 4),
                x -> x.transfer(0, 0, 95, 1)), x -> x.pass(0, 6), 1);
        due("6: two halves", reel(9, 9, 2), x -> x.transfer(0, 0, 95, 0), 0);
        due("6: 3 less 2", after(reel(9, 9, 3), times(2, x -> x.transfer(0, 0, 190, 0))), x -> x.transfer(0, 0, 190, 1), 2);
        refused("6: 3 less 3", after(reel(9, 9, 3), times(3, x -> x.transfer(0, 0, 190, 0))), x -> x.transfer(0, 0, 190, 1), 4);
    }

    private static void roomForPasses() {
        Call one = x -> x.transfer(0, 0, 48, 1);
        for (int count = 0; count <= 23; count++) {
            due("6: pass " + count, passes(count, 9, 99), one, count);
        }
        recorded("6: the last pass", passes(23, 9, 99), one, 23);
        refused("6: a 25th pass", passes(24, 9, 99), one, 5);
        due("6: room again after undo", after(passes(24, 9, 99), x -> x.undo()), one, 23);
        refused("6: no room on the next day", after(passes(24, 9, 99), x -> x.passDays(1)), one, 5);
        properties("25: the last pass", after(passes(23, 9, 99), x -> x.passDays(2), one), (x, v) -> x.pass(23, v),
                0, 0, 48, 1, 2, 2, 0);
        due("26: its capture", after(passes(23, 9, 99), one), x -> x.captured(23, 1), 77);
    }

    /** Each two of the reasons at once: the first one is told. */
    private static void whichRefusalIsFirst() {
        Call disc = x -> x.addMachine(DISC, 7, HALF_TRACK, 100);
        Call onDisc = x -> x.transfer(0, 1, 33, 0);
        refused("6: 1 before 2", after(passes(2, 9, 2), disc), onDisc, 1);
        Build noTime = after(empty(), x -> x.addCarrier(REEL, 380, HALF_TRACK, 3600, 9), x -> x.addMachine(REEL, 7, HALF_TRACK, 9),
                disc, x -> x.addCarrier(DISC, 78, HALF_TRACK, 3600, 9), times(3, x -> x.transfer(1, 1, 33, 0)));
        refused("6: 3 alone", noTime, x -> x.transfer(1, 1, 33, 0), 3);
        refused("6: 1 before 3", noTime, onDisc, 1);
        refused("6: 1 before 4", after(pair(REEL, 95, QUARTER_TRACK, 9, HALF_TRACK, 100), disc), onDisc, 1);
        refused("6: 1 before 5", after(passes(24, 9, 99), disc), onDisc, 1);
        Build twoPlays = after(empty(), x -> x.addCarrier(REEL, 380, HALF_TRACK, 3600, 2),
                x -> x.addMachine(REEL, 7, HALF_TRACK, 100), times(2, x -> x.transfer(0, 0, 95, 0)));
        refused("6: 2 before 3", twoPlays, x -> x.transfer(0, 0, 95, 0), 2);
        Build deaf = after(empty(), x -> x.addCarrier(REEL, 95, HALF_TRACK, 9, 1), x -> x.addMachine(REEL, 7, FULL_TRACK, 100));
        refused("6: 2 before 4", deaf, x -> x.transfer(0, 0, 190, 0), 2);
        refused("6: 2 before 5", passes(24, 9, 24), x -> x.transfer(0, 0, 48, 0), 2);
        Build tired = after(empty(), x -> x.addCarrier(REEL, 380, FULL_TRACK, 3600, 9), x -> x.addMachine(REEL, 7, FULL_TRACK, 100),
                times(2, x -> x.transfer(0, 0, 95, 0)), x -> x.addCarrier(REEL, 380, HALF_TRACK, 9, 9));
        refused("6: 3 before 4", tired, x -> x.transfer(1, 0, 380, 0), 3);
        refused("6: 3 before 5", passes(24, 1200, 99), x -> x.transfer(0, 0, 48, 0), 3);
        refused("6: 4 before 5", after(passes(24, 9, 99), x -> x.addMachine(CASSETTE, 1, HALF_TRACK, 24)),
                x -> x.transfer(0, 1, 48, 0), 4);
        refused("6: 5 alone", after(passes(24, 9, 99), x -> x.addMachine(CASSETTE, 1, HALF_TRACK, 25)),
                x -> x.transfer(0, 1, 48, 0), 5);
    }

    private static void theReason() {
        refused("6: a reason in place of an older one", Edges::rich, x -> x.transfer(0, 1, 45, 0), 1);
        recorded("6: a pass takes the reason away", Edges::rich, x -> x.transfer(0, 0, 190, 0), 2);
        due("6: it is 0 then", after(Edges::rich, x -> x.transfer(0, 0, 190, 0)), x -> x.total(11), 0);
        keeps("6: no carrier leaves the reason", Edges::rich, x -> x.transfer(8, 0, 190, 0), BAD_INDEX);
        keeps("6: a wrong side leaves the reason", Edges::rich, x -> x.transfer(0, 0, 190, 9), BAD_VALUE);
        due("6: a refusal takes no play", after(reel(9, 1, 90), x -> x.transfer(0, 0, 380, 0)), x -> x.carrier(0, 4), 1);
        due("6: a refusal takes no time", after(reel(9, 1, 90), x -> x.transfer(0, 0, 380, 0)), x -> x.machine(0, 4), 28800);
        due("6: a refusal does not wear", after(reel(9, 1, 90), x -> x.transfer(0, 0, 380, 0)),
                x -> x.heard(0, 0, 190, 0, 0), 90);
    }

    // ---- captures, as promises 26 and 37 tell them

    private static void captured(String name, Build build, int speed, int side, int track, int due) {
        keeps("37: " + name, build, x -> x.heard(0, 0, speed, side, track), due);
        due("26: " + name, after(build, x -> x.transfer(0, 0, speed, side)), x -> x.captured(0, track), due);
    }

    private static void rounding() {
        captured("90 of 190 at 190", reel(9, 9, 90), 190, 0, 0, 90);
        captured("90 / 2, without a rest", reel(9, 9, 90), 95, 0, 0, 45);
        captured("91 / 2, rounded down", reel(9, 9, 91), 95, 0, 0, 45);
        captured("91 / 2, at the higher speed", reel(9, 9, 91), 380, 0, 0, 45);
        captured("4 * 33 / 45 = 2 and 42 / 45", pair(DISC, 45, HALF_TRACK, 9, HALF_TRACK, 4), 33, 0, 0, 2);
        captured("19 * 45 / 78 = 10 and 75 / 78", pair(DISC, 45, HALF_TRACK, 9, HALF_TRACK, 19), 78, 0, 0, 10);
        captured("26 * 45 / 78 = 15", pair(DISC, 45, HALF_TRACK, 9, HALF_TRACK, 26), 78, 0, 0, 15);
        captured("3 * 33 / (2 * 45) = 1 and 9 / 90", pair(DISC, 33, HALF_TRACK, 9, PAIRED_TRACK, 3), 45, 0, 0, 1);
        captured("one of four strips, not two", pair(REEL, 95, FULL_TRACK, 9, QUARTER_TRACK, 100), 95, 0, 0, 25);
        captured("two of four strips", pair(REEL, 95, FULL_TRACK, 9, HALF_TRACK, 100), 95, 1, 0, 50);
        captured("the greatest of all", pair(REEL, 95, FULL_TRACK, 9, FULL_TRACK, 100), 95, 0, 0, 100);
        captured("all four strips from below", pair(REEL, 95, FULL_TRACK, 9, FULL_TRACK, 100), 95, 1, 0, 100);
        captured("one of four strips from below", pair(REEL, 95, FULL_TRACK, 9, QUARTER_TRACK, 100), 95, 1, 0, 25);
        captured("one of two strips, backwards", pair(REEL, 95, HALF_TRACK, 9, QUARTER_TRACK, 100), 95, 1, 0, 50);
        captured("the smallest of all", pair(REEL, 95, FULL_TRACK, 9, QUARTER_TRACK, 4), 95, 0, 0, 1);
        captured("side 0 from above", pair(REEL, 95, HALF_TRACK, 9, HALF_TRACK, 80), 95, 0, 0, 80);
        captured("side 1 from below", pair(REEL, 95, HALF_TRACK, 9, HALF_TRACK, 80), 95, 1, 1, 80);
        captured("the other side", pair(REEL, 95, HALF_TRACK, 9, HALF_TRACK, 80), 95, 0, 1, 0);
        captured("the other side from below", pair(REEL, 95, HALF_TRACK, 9, HALF_TRACK, 80), 95, 1, 0, 0);
    }

    private static void wear() {
        int[] due = {3, 2, 1, 0, 0};
        for (int made = 0; made <= 4; made++) {
            Build build = after(reel(9, 99, 3), x -> x.addMachine(REEL, 2, HALF_TRACK, 100),
                    times(made, x -> x.transfer(0, 1, 190, 1)));
            due("37: 3 less " + made, build, x -> x.heard(0, 0, 190, 0, 0), due[made]);
            due("37: 100 less " + made, build, x -> x.heard(0, 1, 190, 0, 0), 100 - made);
            due("37: half of 3, then less " + made, build, x -> x.heard(0, 0, 380, 0, 0), made == 0 ? 1 : 0);
        }
        due("37: 2 less 24", after(passes(24, 9, 99), x -> x.addMachine(CASSETTE, 1, HALF_TRACK, 2)),
                x -> x.heard(0, 1, 48, 0, 0), 0);
        Build two = after(passes(5, 9, 99), x -> x.addCarrier(CASSETTE, 48, HALF_TRACK, 9, 99));
        due("37: passes of another carrier do not wear", two, x -> x.heard(1, 0, 48, 0, 0), 100);
        due("37: five passes wear", two, x -> x.heard(0, 0, 48, 0, 0), 95);
        due("37: undone passes do not wear", after(passes(5, 9, 99), times(2, x -> x.undo())),
                x -> x.heard(0, 0, 48, 0, 0), 97);
        for (int pass = 0; pass <= 4; pass++) {
            int chosen = pass;
            due("26: the captures are kept", passes(5, 9, 99), x -> x.captured(chosen, 0), 100 - pass);
        }
    }

    // ---- promises 25 to 28

    private static void lookingAtPasses() {
        properties("25: pass 0", Edges::rich, (x, v) -> x.pass(0, v), 0, 0, 190, 0, 0, 3, 2);
        properties("25: pass 1", Edges::rich, (x, v) -> x.pass(1, v), 1, 1, 45, 1, 1, 12, 0);
        numbers("25: pass", 2, Edges::rich, (x, v) -> x.pass(v, 0));
        numbers("25: pass of 24", 24, passes(24, 9, 99), (x, v) -> x.pass(v, 6));
        numbers("25: no pass at all", 0, reel(9, 9, 9), (x, v) -> x.pass(v, 0));
        numbers("25: no pass before a wrong property", 2, Edges::rich, (x, v) -> x.pass(v, 7));
        numbers("25: no pass before a wrong property", 2, Edges::rich, (x, v) -> x.pass(v, -1));
        int[][] layouts = {{REEL, 95, FULL_TRACK, 1}, {REEL, 95, HALF_TRACK, 2}, {REEL, 95, QUARTER_TRACK, 4},
            {DISC, 33, PAIRED_TRACK, 4}};
        for (int[] l : layouts) {
            Build build = after(pair(l[0], l[1], l[2], 9, l[2], 100), x -> x.transfer(0, 0, l[1], 0));
            numbers("26: track of layout " + l[2], l[3], build, (x, v) -> x.captured(0, v));
            numbers("37: track of layout " + l[2], l[3], build, (x, v) -> x.heard(0, 0, l[1], 0, v));
            Build turned = after(pair(l[0], l[1], l[2], 9, l[2], 100), x -> x.transfer(0, 0, l[1], 1));
            int[] above = {1, 1, 5, 3};
            int[] below = {1, 2, 10, 12};
            due("25: tracks of layout " + l[2] + " with side 0 up", build, x -> x.pass(0, 5), above[l[2]]);
            due("25: none is backwards", build, x -> x.pass(0, 6), 0);
            due("25: tracks of layout " + l[2] + " with side 1 up", turned, x -> x.pass(0, 5), below[l[2]]);
            due("25: backwards is a full track alone", turned, x -> x.pass(0, 6), l[2] == FULL_TRACK ? 1 : 0);
        }
        numbers("26: pass", 2, Edges::rich, (x, v) -> x.captured(v, 0));
        numbers("26: pass of 24", 24, passes(24, 9, 99), (x, v) -> x.captured(v, 1));
        keeps("26: captured backwards", Edges::rich, x -> x.captured(0, 1), 45);
        keeps("26: not captured", Edges::rich, x -> x.captured(1, 1), 0);
    }

    private static void passesOfUnlikeNumbers() {
        int[][] passes = {{0, 0, 48, 1, 4, 12, 0}, {2, 1, 95, 0, 5, 5, 0}, {2, 1, 190, 1, 5, 10, 0}};
        int[][] captures = {{0, 0, 70, 70}, {45, 0, 45, 0}, {0, 89, 0, 89}};
        int[][] qualities = {{0, 0, 0, 0, 0}, {0, 0, 0, 0, 45}, {0, 0, 0, 89, 0}};
        for (int pass = 0; pass <= 2; pass++) {
            int chosen = pass;
            properties("25: pass " + pass, Edges::unlike, (x, v) -> x.pass(chosen, v), passes[pass]);
            for (int track = 0; track <= 3; track++) {
                int its = track;
                due("26: track " + track + " in pass " + pass, Edges::unlike, x -> x.captured(chosen, its), captures[pass][track]);
            }
            for (int recording = 0; recording <= 4; recording++) {
                int its = recording;
                due("27: recording " + recording + " in pass " + pass, Edges::unlike, x -> x.quality(chosen, its),
                        qualities[pass][recording]);
            }
        }
        int[] best = {NONE, NONE, NONE, 2, 1};
        for (int recording = 0; recording <= 4; recording++) {
            int its = recording;
            due("28: best for recording " + recording, Edges::unlike, x -> x.bestPass(its), best[recording]);
        }
        due("37: carrier 2 on machine 1", Edges::unlike, x -> x.heard(2, 1, 380, 1, 3), 43);
        due("38: carrier 2", Edges::unlike, x -> x.duration(2, 380), 300);
        properties("39: recording 0", Edges::unlike, (x, v) -> x.planned(0, v), 0, 48, 0, 69, 60);
        properties("39: recording 2", Edges::unlike, (x, v) -> x.planned(2, v), NONE, NONE, NONE, NONE, NONE);
        properties("39: recording 3", Edges::unlike, (x, v) -> x.planned(3, v), 1, 190, 1, 88, 600);
        properties("39: recording 4", Edges::unlike, (x, v) -> x.planned(4, v), 1, 190, 0, 88, 600);
        due("40: carrier 2", Edges::unlike, x -> x.fewestPasses(2, 88), 2);
        due("40: carrier 0", Edges::unlike, x -> x.fewestPasses(0, 69), 1);
        due("40: carrier 1", Edges::unlike, x -> x.fewestPasses(1, 1), NONE);
        numbers("26: track of carrier 2", 4, Edges::unlike, (x, v) -> x.captured(1, v));
        Build disc = after(Edges::unlike, x -> x.addMachine(DISC, 7, PAIRED_TRACK, 80), x -> x.transfer(1, 2, 78, 1));
        numbers("26: track of carrier 1", 2, disc, (x, v) -> x.captured(3, v));
        properties("25: a pass of carrier 1 on machine 2", disc, (x, v) -> x.pass(3, v), 1, 2, 78, 1, 5, 2, 0);
    }

    private static void qualities() {
        numbers("27: pass", 2, Edges::rich, (x, v) -> x.quality(v, 0));
        numbers("27: recording", 3, Edges::rich, (x, v) -> x.quality(0, v));
        numbers("27: pass of 24", 24, passes(24, 9, 99), (x, v) -> x.quality(v, 0));
        keeps("27: a recording that is covered", Edges::rich, x -> x.quality(0, 0), 45);
        keeps("27: one that is covered backwards", Edges::rich, x -> x.quality(0, 1), 45);
        keeps("27: a pass of another carrier", Edges::rich, x -> x.quality(0, 2), 0);
        keeps("27: a pass of another side", Edges::rich, x -> x.quality(1, 2), 0);
        Build later = after(passes(2, 9, 99), x -> x.addRecording(0, 1, 5, 9));
        due("27: a recording that was added later", later, x -> x.quality(1, 1), 99);
        due("28: a recording that was added later", later, x -> x.bestPass(1), 0);
        Build two = after(pair(REEL, 95, QUARTER_TRACK, 9, QUARTER_TRACK, 1), x -> x.addRecording(0, 5, 0, 9),
                x -> x.transfer(0, 0, 95, 0));
        due("27: the smallest quality that covers", two, x -> x.quality(0, 0), 1);
        due("28: the smallest quality that covers", two, x -> x.bestPass(0), 0);
    }

    private static void bestPasses() {
        numbers("28: recording", 3, Edges::rich, (x, v) -> x.bestPass(v));
        numbers("28: no recording at all", 0, after(empty(), x -> x.addCarrier(DISC, 33, HALF_TRACK, 9, 9)),
                (x, v) -> x.bestPass(v));
        keeps("28: no pass at all", reel(9, 9, 9), x -> x.bestPass(0), NONE);
        keeps("28: a pass of another side", after(reel(9, 9, 9), x -> x.transfer(0, 0, 190, 1)), x -> x.bestPass(0), NONE);
        keeps("28: a pass of another carrier", Edges::rich, x -> x.bestPass(2), NONE);
        keeps("28: the only pass", Edges::rich, x -> x.bestPass(0), 0);
        Build growing = after(reel(9, 9, 50), x -> x.addMachine(REEL, 7, HALF_TRACK, 51), x -> x.addMachine(REEL, 7, HALF_TRACK, 53));
        Build equal = after(growing, x -> x.transfer(0, 0, 190, 0), x -> x.transfer(0, 1, 190, 0));
        due("28: of two of the same quality the first one", equal, x -> x.bestPass(0), 0);
        due("28: their quality", equal, x -> x.quality(1, 0), 50);
        due("28: one better by 1", after(equal, x -> x.transfer(0, 2, 190, 0)), x -> x.bestPass(0), 2);
        due("28: one worse by 1", after(reel(9, 9, 50), times(2, x -> x.transfer(0, 0, 190, 0))), x -> x.bestPass(0), 0);
        due("28: the last of 24", after(passes(23, 9, 99), x -> x.addRecording(0, 2, 0, 9), x -> x.transfer(0, 0, 48, 1)),
                x -> x.bestPass(1), 23);
    }

    // ---- promises 37 and 38

    private static void hearing() {
        numbers("37: carrier", 2, Edges::rich, (x, v) -> x.heard(v, 0, 190, 0, 0));
        numbers("37: machine", 2, Edges::rich, (x, v) -> x.heard(0, v, 190, 0, 0));
        range("37: side", 0, 1, 44, BAD_VALUE, Edges::rich, (x, v) -> x.heard(0, 0, 190, v, 0));
        outside("37: speed", BAD_VALUE, Edges::rich, (x, v) -> x.heard(0, 0, v, 0, 0), 0, -1, 94, 191, 381, 33, LOW, HIGH);
        keeps("37: no carrier before a wrong speed", Edges::rich, x -> x.heard(2, 0, 1, 0, 0), BAD_INDEX);
        keeps("37: no machine before a wrong speed", Edges::rich, x -> x.heard(0, 2, 1, 0, 0), BAD_INDEX);
        keeps("37: no track before a wrong speed", Edges::rich, x -> x.heard(0, 0, 1, 0, 2), BAD_INDEX);
        keeps("37: no track before a wrong side", Edges::rich, x -> x.heard(0, 0, 190, 2, -1), BAD_INDEX);
        keeps("37: no track before another kind", Edges::rich, x -> x.heard(0, 1, 45, 0, 2), BAD_INDEX);
        keeps("37: a wrong speed before another kind", Edges::rich, x -> x.heard(0, 1, 190, 0, 0), BAD_VALUE);
        keeps("37: a wrong side before another kind", Edges::rich, x -> x.heard(0, 1, 45, -1, 0), BAD_VALUE);
        keeps("37: another kind", Edges::rich, x -> x.heard(0, 1, 45, 0, 0), NOT_POSSIBLE);
        keeps("37: refused for 2", reel(9, 1, 90), x -> x.heard(0, 0, 380, 0, 0), 45);
        keeps("37: refused for 3", used(2), x -> x.heard(0, 0, 380, 0, 0), 98);
        keeps("37: refused for 4", pair(REEL, 95, HALF_TRACK, 9, FULL_TRACK, 90), x -> x.heard(0, 0, 95, 0, 0), 0);
        keeps("37: refused for 5", passes(24, 9, 99), x -> x.heard(0, 0, 48, 0, 0), 76);
    }

    private static void durations() {
        for (int kind = 0; kind <= 2; kind++) {
            for (int own : SPEEDS[kind]) {
                for (int length : new int[] {1, 2, 3, 4, 5, 11, 12, 13, 14, 15, 16, 26, 45, 99, 100, 101, 1799, 3599, 3600}) {
                    int chosen = kind;
                    Build build = after(empty(), x -> x.addCarrier(chosen, own, HALF_TRACK, length, 9),
                            x -> x.addMachine(chosen, chosen == CASSETTE ? 1 : 7, HALF_TRACK, 100));
                    for (int speed : SPEEDS[kind]) {
                        int seconds = length * own / speed + (length * own % speed == 0 ? 0 : 1);
                        String name = length + " s of " + own + " at " + speed;
                        due("38: " + name, build, x -> x.duration(0, speed), seconds);
                        due("6: " + name, after(build, x -> x.transfer(0, 0, speed, 0)), x -> x.machine(0, 4), 28800 - seconds);
                    }
                }
            }
        }
        keeps("38: 90 / 45 without a rest", pair(DISC, 45, HALF_TRACK, 2, HALF_TRACK, 9), x -> x.duration(0, 45), 2);
        keeps("38: a rest of 1", pair(DISC, 78, HALF_TRACK, 11, HALF_TRACK, 9), x -> x.duration(0, 33), 26);
        keeps("38: 45 / 78 is a second", pair(DISC, 45, HALF_TRACK, 1, HALF_TRACK, 9), x -> x.duration(0, 78), 1);
        keeps("38: the longest", pair(REEL, 380, HALF_TRACK, 3600, HALF_TRACK, 9), x -> x.duration(0, 95), 14400);
    }

    private static void speedsOfDurations() {
        numbers("38: carrier", 2, Edges::rich, (x, v) -> x.duration(v, v == 1 ? 45 : 190));
        numbers("38: no carrier before a wrong speed", 2, Edges::rich, (x, v) -> x.duration(v, 7));
        for (int kind = 0; kind <= 2; kind++) {
            int own = SPEEDS[kind][0];
            Build build = pair(kind, own, HALF_TRACK, 1, HALF_TRACK, 9);
            for (int speed = -1; speed <= 400; speed++) {
                int chosen = speed;
                due("38: kind " + kind + " at " + speed, build, x -> x.duration(0, chosen),
                        has(SPEEDS[kind], speed) ? 1 : BAD_VALUE);
            }
            outside("38: speed", BAD_VALUE, build, (x, v) -> x.duration(0, v), LOW, HIGH, 0, -own);
        }
        keeps("38: a speed that no machine has", after(empty(), x -> x.addCarrier(REEL, 190, HALF_TRACK, 9, 9)),
                x -> x.duration(0, 380), 5);
    }

    // ---- promise 39

    private static void plan(String name, Build build, int... due) {
        properties("39: " + name, build, (x, v) -> x.planned(0, v), due);
    }

    private static Build machine(Build build, int kind, int speeds, int head, int quality) {
        return after(build, x -> x.addMachine(kind, speeds, head, quality));
    }

    private static Build carrier(int kind, int speed, int layout, int length, int plays) {
        return after(empty(), x -> x.addCarrier(kind, speed, layout, length, plays), x -> x.addRecording(0, 1, 0, 1));
    }

    private static void whichPlanIsBest() {
        Build reel = carrier(REEL, 190, HALF_TRACK, 100, 9);
        plan("a better one beats the shorter one and the smaller number",
                machine(machine(reel, REEL, 4, HALF_TRACK, 99), REEL, 1, HALF_TRACK, 100), 1, 95, 0, 50, 200);
        plan("the shorter one beats the smaller number and the lower speed",
                machine(machine(reel, REEL, 1, HALF_TRACK, 100), REEL, 4, HALF_TRACK, 100), 1, 380, 0, 50, 50);
        plan("the shorter one of one machine", machine(reel, REEL, 5, HALF_TRACK, 100), 0, 380, 0, 50, 50);
        plan("the shorter one with the smaller number",
                machine(machine(reel, REEL, 4, HALF_TRACK, 100), REEL, 1, HALF_TRACK, 100), 0, 380, 0, 50, 50);
        plan("the shorter one with the lower speed", machine(carrier(DISC, 33, HALF_TRACK, 1, 9), DISC, 5, HALF_TRACK, 1),
                0, 33, 0, 1, 1);
        plan("the smaller number", machine(machine(reel, REEL, 2, HALF_TRACK, 70), REEL, 2, HALF_TRACK, 70), 0, 190, 0, 70, 100);
        Build disc = carrier(DISC, 45, HALF_TRACK, 1, 9);
        plan("the smaller number beats the lower speed",
                machine(machine(disc, DISC, 4, HALF_TRACK, 26), DISC, 2, HALF_TRACK, 15), 0, 78, 0, 15, 1);
        plan("and the higher one", machine(machine(disc, DISC, 2, HALF_TRACK, 15), DISC, 4, HALF_TRACK, 26), 0, 45, 0, 15, 1);
        Build slow = carrier(DISC, 33, HALF_TRACK, 1, 9);
        plan("the lowest speed of those that are alike", machine(slow, DISC, 7, PAIRED_TRACK, 3), 0, 33, 0, 1, 1);
        plan("without the lowest one", machine(slow, DISC, 6, PAIRED_TRACK, 3), 0, 45, 0, 1, 1);
        plan("three seconds beat four", machine(carrier(DISC, 33, HALF_TRACK, 4, 9), DISC, 7, PAIRED_TRACK, 3), 0, 45, 0, 1, 3);
        plan("side 0 of two sides that are alike", machine(carrier(REEL, 95, FULL_TRACK, 9, 9), REEL, 1, FULL_TRACK, 100),
                0, 95, 0, 100, 9);
        Build back = after(empty(), x -> x.addCarrier(REEL, 95, HALF_TRACK, 9, 9), x -> x.addRecording(0, 2, 0, 1));
        plan("side 1 alone", machine(back, REEL, 1, HALF_TRACK, 80), 0, 95, 1, 80, 9);
        plan("side 0, backwards", machine(back, REEL, 1, QUARTER_TRACK, 80), 0, 95, 0, 40, 9);
    }

    private static void whatPlansMayBe() {
        Build one = machine(carrier(REEL, 190, HALF_TRACK, 100, 1), REEL, 7, HALF_TRACK, 100);
        Build fast = machine(carrier(REEL, 95, HALF_TRACK, 100, 1), REEL, 6, HALF_TRACK, 100);
        Build two = machine(carrier(REEL, 95, HALF_TRACK, 100, 2), REEL, 6, HALF_TRACK, 100);
        plan("with one play", one, 0, 190, 0, 100, 100);
        properties("39: one play for fast passes alone", fast, (x, v) -> x.planned(0, v), NONE, NONE, NONE, NONE, NONE);
        plan("two plays for fast passes alone", two, 0, 190, 0, 50, 50);
        due("39: no play is left", after(one, x -> x.transfer(0, 0, 190, 0)), x -> x.planned(0, 0), NONE);
        Build half = machine(carrier(REEL, 190, HALF_TRACK, 100, 1), REEL, 5, HALF_TRACK, 100);
        plan("one play leaves the slow pass alone", half, 0, 95, 0, 50, 200);
        due("39: a machine of another kind", machine(carrier(REEL, 95, HALF_TRACK, 9, 9), DISC, 7, HALF_TRACK, 100),
                x -> x.planned(0, 0), NONE);
        due("39: no machine at all", carrier(REEL, 95, HALF_TRACK, 9, 9), x -> x.planned(0, 0), NONE);
        due("39: nothing would be captured", pairWithRecording(FULL_TRACK, 100), x -> x.planned(0, 0), NONE);
        plan("a capture of 1", pairWithRecording(HALF_TRACK, 1), 0, 95, 0, 1, 9);
        due("39: 1 less 1", after(pairWithRecording(HALF_TRACK, 1), x -> x.transfer(0, 0, 95, 0)), x -> x.planned(0, 0), NONE);
        Build noTime = after(used(2), x -> x.addRecording(0, 1, 0, 1));
        plan("without time left", noTime, 0, 380, 0, 98, 3600);
        plan("without room for a pass", passes(24, 9, 99), 0, 48, 0, 76, 9);
        plan("on the last of four machines", machine(machine(machine(machine(carrier(REEL, 95, HALF_TRACK, 9, 9), DISC, 7,
                HALF_TRACK, 100), CASSETTE, 1, HALF_TRACK, 100), REEL, 1, HALF_TRACK, 9), REEL, 1, HALF_TRACK, 10), 3, 95, 0, 10, 9);
        numbers("39: recording", 3, Edges::rich, (x, v) -> x.planned(v, 0));
        numbers("39: no recording before a wrong property", 3, Edges::rich, (x, v) -> x.planned(v, 5));
        numbers("39: no recording before a wrong property", 3, Edges::rich, (x, v) -> x.planned(v, -1));
        outside("39: a wrong property before no plan", BAD_VALUE, carrier(REEL, 95, HALF_TRACK, 9, 9),
                (x, v) -> x.planned(0, v), -1, 5, LOW, HIGH);
    }

    private static Build pairWithRecording(int head, int quality) {
        return after(pair(REEL, 95, HALF_TRACK, 9, head, quality), x -> x.addRecording(0, 1, 0, 1));
    }

    // ---- promise 40

    private static void fewestOfQualities() {
        numbers("40: carrier", 2, Edges::rich, (x, v) -> x.fewestPasses(v, 9));
        numbers("40: no carrier before a wrong quality", 2, Edges::rich, (x, v) -> x.fewestPasses(v, 0));
        numbers("40: no carrier before a wrong quality", 2, Edges::rich, (x, v) -> x.fewestPasses(v, 101));
        range("40: quality", 1, 100, 2, BAD_VALUE, reel(9, 9, 100), (x, v) -> x.fewestPasses(0, v));
        Build none = carrierWithout();
        range("40: quality without recordings", 1, 100, 0, BAD_VALUE, none, (x, v) -> x.fewestPasses(0, v));
        Build two = after(reel(9, 9, 60), x -> x.addCarrier(REEL, 95, HALF_TRACK, 9, 9), x -> x.addRecording(1, 2, 0, 1),
                x -> x.addCarrier(REEL, 95, HALF_TRACK, 9, 9));
        due("40: after another carrier", after(two, x -> x.fewestPasses(0, 60)), x -> x.fewestPasses(1, 60), 1);
        due("40: after a carrier that needs less", after(two, x -> x.fewestPasses(1, 60)), x -> x.fewestPasses(0, 60), 2);
        due("40: no recordings, after a carrier with some", after(two, x -> x.fewestPasses(0, 60)), x -> x.fewestPasses(2, 60), 0);
        due("40: after a lower quality", after(two, x -> x.fewestPasses(0, 60)), x -> x.fewestPasses(0, 61), NONE);
        due("40: after a higher quality", after(two, x -> x.fewestPasses(0, 61)), x -> x.fewestPasses(0, 60), 2);
        outside("40: a wrong quality before no way at all", BAD_VALUE, carrier(REEL, 95, HALF_TRACK, 9, 9),
                (x, v) -> x.fewestPasses(0, v), 0, 101, LOW, HIGH);
        keeps("40: as good as asked", reel(9, 9, 60), x -> x.fewestPasses(0, 60), 2);
        keeps("40: worse by 1", reel(9, 9, 60), x -> x.fewestPasses(0, 61), NONE);
        keeps("40: a quality of 1", reel(9, 9, 1), x -> x.fewestPasses(0, 1), 2);
        keeps("40: as good as asked, less a pass", after(reel(9, 9, 60), x -> x.transfer(0, 0, 190, 0)),
                x -> x.fewestPasses(0, 59), 2);
        keeps("40: worse by a pass", after(reel(9, 9, 60), x -> x.transfer(0, 0, 190, 0)), x -> x.fewestPasses(0, 60), NONE);
        keeps("40: nothing is captured any more", after(reel(9, 9, 1), x -> x.transfer(0, 0, 190, 0)),
                x -> x.fewestPasses(0, 1), NONE);
    }

    private static Build carrierWithout() {
        return after(empty(), x -> x.addCarrier(REEL, 190, HALF_TRACK, 9, 9));
    }

    private static void howManyAreFewest() {
        Build half = machine(carrierWithout(), REEL, 7, HALF_TRACK, 80);
        Build one = after(half, x -> x.addRecording(0, 1, 0, 1));
        due("40: one recording", one, x -> x.fewestPasses(0, 80), 1);
        due("40: two on a side", after(one, x -> x.addRecording(0, 1, 1, 2)), x -> x.fewestPasses(0, 80), 1);
        Build two = after(one, x -> x.addRecording(0, 2, 0, 1));
        due("40: one on each side", two, x -> x.fewestPasses(0, 80), 2);
        due("40: one pass for both, one of them backwards", machine(two, REEL, 7, QUARTER_TRACK, 100), x -> x.fewestPasses(0, 50), 1);
        Build quarterFirst = after(empty(), x -> x.addCarrier(REEL, 190, HALF_TRACK, 9, 9), x -> x.addMachine(REEL, 7, QUARTER_TRACK, 100),
                x -> x.addMachine(REEL, 7, HALF_TRACK, 80), x -> x.addRecording(0, 1, 0, 1), x -> x.addRecording(0, 2, 0, 1));
        due("40: one pass for both, before worse ways", quarterFirst, x -> x.fewestPasses(0, 50), 1);
        due("40: above the quality of that one", quarterFirst, x -> x.fewestPasses(0, 51), 2);
        due("40: above the quality of that one", machine(two, REEL, 7, QUARTER_TRACK, 100), x -> x.fewestPasses(0, 51), 2);
        due("40: above all", machine(two, REEL, 7, QUARTER_TRACK, 100), x -> x.fewestPasses(0, 81), NONE);
        due("40: two recordings of another carrier",
                after(one, x -> x.addCarrier(REEL, 95, HALF_TRACK, 9, 9), x -> x.addRecording(1, 1, 0, 1), x -> x.addRecording(1, 2, 0, 1)),
                x -> x.fewestPasses(0, 80), 1);
        Build quarters = machine(after(empty(), x -> x.addCarrier(REEL, 95, QUARTER_TRACK, 9, 9)), REEL, 1, QUARTER_TRACK, 50);
        for (int sets = 1; sets <= 63; sets++) {
            int chosen = sets;
            int[] tracks = {1, 4, 5, 2, 8, 10};
            Build build = after(quarters, x -> {
                for (int k = 0; k < tracks.length; k++) {
                    if ((chosen >> k & 1) == 1) {
                        x.addRecording(0, tracks[k], k, k + 1);
                    }
                }
                return 0;
            });
            int sides = ((sets & 7) != 0 ? 1 : 0) + ((sets & 56) != 0 ? 1 : 0);
            due("40: four tracks, sets " + sets, build, x -> x.fewestPasses(0, 50), sides);
            due("40: four tracks, sets " + sets, build, x -> x.fewestPasses(0, 51), NONE);
        }
    }

    private static void whatPlaysNoPart() {
        due("40: no machine at all", carrier(REEL, 95, HALF_TRACK, 9, 9), x -> x.fewestPasses(0, 1), NONE);
        due("40: neither recordings nor machines", carrierWithout(), x -> x.fewestPasses(0, 1), 0);
        due("40: a machine of another kind", machine(carrier(REEL, 95, HALF_TRACK, 9, 9), DISC, 7, HALF_TRACK, 100),
                x -> x.fewestPasses(0, 1), NONE);
        due("40: no plays", passes(2, 9, 2), x -> x.fewestPasses(0, 98), 1);
        due("40: one play for two passes", reel(9, 1, 90), x -> x.fewestPasses(0, 90), 2);
        due("40: one play for a fast pass", machine(carrier(REEL, 95, HALF_TRACK, 9, 1), REEL, 4, HALF_TRACK, 100),
                x -> x.fewestPasses(0, 25), 1);
        due("40: no time", after(used(2), x -> x.addRecording(0, 1, 0, 1)), x -> x.fewestPasses(0, 98), 1);
        due("40: no room for a pass", passes(24, 9, 99), x -> x.fewestPasses(0, 76), 1);
        due("40: passes that were made are no part of it", after(reel(9, 9, 90), x -> x.transfer(0, 0, 190, 0)),
                x -> x.fewestPasses(0, 50), 2);
        due("40: the last of four machines", machine(machine(machine(machine(carrier(REEL, 95, HALF_TRACK, 9, 9), DISC, 7,
                HALF_TRACK, 100), REEL, 6, HALF_TRACK, 100), REEL, 1, HALF_TRACK, 89), REEL, 1, HALF_TRACK, 90),
                x -> x.fewestPasses(0, 90), 1);
        Build many = after(machine(carrier(REEL, 190, HALF_TRACK, 9, 9), REEL, 7, HALF_TRACK, 90),
                x -> x.addCarrier(REEL, 95, HALF_TRACK, 99, 9), times(14, x -> x.addRecording(1, 1, x.total(3), x.total(3) + 1)));
        due("40: the first of 16 recordings", many, x -> x.fewestPasses(0, 90), 1);
        due("40: the last of 16 recordings", after(many, x -> x.addRecording(0, 2, 0, 1)), x -> x.fewestPasses(0, 90), 2);
    }

    public static void main(String[] args) {
        argumentsOfPasses();
        speedsOfPasses();
        otherKinds();
        playsOfPasses();
        timeOfPasses();
        nothingCaptured();
        roomForPasses();
        whichRefusalIsFirst();
        theReason();
        rounding();
        wear();
        lookingAtPasses();
        passesOfUnlikeNumbers();
        qualities();
        bestPasses();
        hearing();
        durations();
        speedsOfDurations();
        whichPlanIsBest();
        whatPlansMayBe();
        fewestOfQualities();
        howManyAreFewest();
        whatPlaysNoPart();
        Check.finish();
    }
}
