/** Promises 1 to 5 and 21 to 24: each boundary that a sentence names, alone on a fresh archive. */
public final class EdgesOfThingsTest extends Edges {
    private static Build disc(int length) {
        return after(empty(), x -> x.addCarrier(DISC, 33, HALF_TRACK, length, 9));
    }

    private static Build carriers(int count) {
        return after(empty(), times(count, x -> x.addCarrier(CASSETTE, 48, PAIRED_TRACK, 60, 9)));
    }

    private static Build machines(int count) {
        return after(empty(), times(count, x -> x.addMachine(CASSETTE, 1, PAIRED_TRACK, 50)));
    }

    /** Recordings of a second each, on the tracks 0 of two discs in turn. */
    private static Build recordings(int count) {
        return after(disc(100), x -> x.addCarrier(DISC, 33, HALF_TRACK, 100, 9),
                times(count, x -> x.addRecording(x.total(3) % 2, 1, x.total(3), x.total(3) + 1)));
    }

    /** A recording from second 50 to second 150, with some parts. */
    private static Build parts(int count) {
        return after(disc(600), x -> x.addRecording(0, 1, 50, 150), x -> x.addRecording(0, 1, 150, 160),
                times(count, x -> x.addPart(0, 0, 100, 1, 9)));
    }

    // ---- promise 1

    private static void aNewObject() {
        for (int property = 0; property <= 13; property++) {
            int chosen = property;
            keeps("1: total " + property, empty(), x -> x.total(chosen), 0);
        }
        keeps("1: no carriers", empty(), x -> x.carrier(0, 0), BAD_INDEX);
        keeps("1: no machines", empty(), x -> x.machine(0, 0), BAD_INDEX);
        keeps("1: no recordings", empty(), x -> x.recording(0, 0), BAD_INDEX);
        keeps("1: no parts", empty(), x -> x.part(0, 0, 0), BAD_INDEX);
        keeps("1: no passes", empty(), x -> x.pass(0, 0), BAD_INDEX);
        keeps("1: no permissions", empty(), x -> x.permission(0, 0), BAD_INDEX);
        keeps("1: no requests", empty(), x -> x.requested(0, 0), BAD_INDEX);
        keeps("1: no open requests", empty(), x -> x.next(0), NONE);
        keeps("1: the text is empty", empty(), x -> x.clearText(), 0);
        keeps("1: an empty text has no fault", empty(), x -> x.faultPosition(), NONE);
        keeps("1: the history is empty", empty(), x -> x.undo(), NOT_POSSIBLE);
        keeps("1: slot 0 is empty", empty(), x -> x.restore(0), NOT_POSSIBLE);
        keeps("1: slot 1 is empty", empty(), x -> x.restore(1), NOT_POSSIBLE);
        for (int person = 0; person <= 7; person++) {
            int chosen = person;
            keeps("1: nobody got anything", empty(), x -> x.income(chosen), 0);
            keeps("1: nobody paid anything", empty(), x -> x.paid(chosen), 0);
        }
    }

    // ---- promise 2

    private static void speedsOfCarriers() {
        for (int kind = 0; kind <= 2; kind++) {
            int chosen = kind;
            for (int speed = -1; speed <= 400; speed++) {
                int own = speed;
                due("2: kind " + kind + " of speed " + speed, empty(), x -> x.addCarrier(chosen, own, HALF_TRACK, 9, 9),
                        has(SPEEDS[kind], speed) ? 0 : BAD_VALUE);
            }
            outside("2: speed", BAD_VALUE, Edges::rich, (x, v) -> x.addCarrier(chosen, v, HALF_TRACK, 9, 9),
                    LOW, HIGH, -SPEEDS[kind][0], 0, SPEEDS[kind][0] - 1, SPEEDS[kind][0] + 1);
        }
    }

    private static void kindsOfCarriers() {
        for (int[] speeds : SPEEDS) {
            for (int speed : speeds) {
                outside("2: kind", BAD_VALUE, Edges::rich, (x, v) -> x.addCarrier(v, speed, HALF_TRACK, 9, 9),
                        -1, 3, LOW, HIGH);
            }
        }
        outside("2: kind with no speed", BAD_VALUE, Edges::rich, (x, v) -> x.addCarrier(v, 0, HALF_TRACK, 9, 9), -1, 3);
        for (int kind = 0; kind <= 2; kind++) {
            int chosen = kind;
            for (int layout = 0; layout <= 3; layout++) {
                int own = layout;
                due("2: kind " + kind + " of layout " + layout, Edges::rich,
                        x -> x.addCarrier(chosen, SPEEDS[chosen][0], own, 9, 9), has(LAYOUTS[kind], layout) ? 2 : BAD_VALUE);
            }
            outside("2: layout", BAD_VALUE, Edges::rich,
                    (x, v) -> x.addCarrier(chosen, SPEEDS[chosen][0], v, 9, 9), -1, 4, LOW, HIGH);
        }
    }

    private static void sizesOfCarriers() {
        range("2: length", 1, 3600, 2, BAD_VALUE, Edges::rich, (x, v) -> x.addCarrier(REEL, 95, FULL_TRACK, v, 9));
        range("2: plays", 1, 99, 2, BAD_VALUE, Edges::rich, (x, v) -> x.addCarrier(REEL, 95, FULL_TRACK, 9, v));
        for (int length : new int[] {1, 3600}) {
            due("2: length " + length + " is kept", disc(length), x -> x.carrier(0, 3), length);
        }
        for (int plays : new int[] {1, 99}) {
            due("2: plays " + plays + " are kept", after(empty(), x -> x.addCarrier(CASSETTE, 48, HALF_TRACK, 1, plays)),
                    x -> x.carrier(0, 4), plays);
        }
    }

    private static void roomForCarriers() {
        Call one = x -> x.addCarrier(DISC, 78, HALF_TRACK, 9, 9);
        for (int count = 0; count <= 7; count++) {
            due("2: carrier " + count, carriers(count), one, count);
        }
        recorded("2: the first carrier", empty(), one, 0);
        recorded("2: the last carrier", carriers(7), one, 7);
        recordedWithTheReason("2: a carrier", one, 2);
        keeps("2: a ninth carrier", carriers(8), one, FULL);
        keeps("2: a wrong kind before no room", carriers(8), x -> x.addCarrier(3, 78, HALF_TRACK, 9, 9), BAD_VALUE);
        keeps("2: a wrong speed before no room", carriers(8), x -> x.addCarrier(DISC, 79, HALF_TRACK, 9, 9), BAD_VALUE);
        keeps("2: a wrong layout before no room", carriers(8), x -> x.addCarrier(DISC, 78, FULL_TRACK, 9, 9), BAD_VALUE);
        keeps("2: length 0 before no room", carriers(8), x -> x.addCarrier(DISC, 78, HALF_TRACK, 0, 9), BAD_VALUE);
        keeps("2: 100 plays before no room", carriers(8), x -> x.addCarrier(DISC, 78, HALF_TRACK, 9, 100), BAD_VALUE);
        due("2: room again after undo", after(carriers(8), x -> x.undo()), one, 7);
        Build again = after(empty(), x -> x.addMachine(DISC, 1, HALF_TRACK, 50), x -> x.addCarrier(DISC, 33, HALF_TRACK, 9, 9),
                x -> x.addRecording(0, 1, 0, 9), x -> x.transfer(0, 0, 33, 0), times(3, x -> x.undo()), one);
        properties("21: a carrier in place of one that was undone", again, (x, v) -> x.carrier(0, v),
                DISC, 78, HALF_TRACK, 9, 9, 0, 0);
    }

    // ---- promise 3

    private static void speedsOfMachines() {
        for (int kind = 0; kind <= 2; kind++) {
            int chosen = kind;
            int most = kind == CASSETTE ? 1 : 7;
            for (int speeds = 1; speeds <= most; speeds++) {
                int own = speeds;
                due("3: speeds " + speeds + " of kind " + kind, Edges::rich, x -> x.addMachine(chosen, own, HALF_TRACK, 9), 2);
            }
            range("3: speeds of kind " + kind, 1, most, 2, BAD_VALUE, Edges::rich,
                    (x, v) -> x.addMachine(chosen, v, HALF_TRACK, 9));
            outside("3: speeds of kind " + kind, BAD_VALUE, Edges::rich,
                    (x, v) -> x.addMachine(chosen, v, HALF_TRACK, 9), -1, most + 2, 16, 17, SPEEDS[kind][0]);
        }
        outside("3: two speeds of cassettes", BAD_VALUE, Edges::rich,
                (x, v) -> x.addMachine(CASSETTE, v, HALF_TRACK, 9), 2, 3, 4, 5, 6, 7);
    }

    private static void kindsOfMachines() {
        outside("3: kind", BAD_VALUE, Edges::rich, (x, v) -> x.addMachine(v, 1, HALF_TRACK, 9), -1, 3, LOW, HIGH);
        for (int kind = 0; kind <= 2; kind++) {
            int chosen = kind;
            for (int head = 0; head <= 3; head++) {
                int own = head;
                due("3: kind " + kind + " with head " + head, Edges::rich, x -> x.addMachine(chosen, 1, own, 9),
                        has(LAYOUTS[kind], head) ? 2 : BAD_VALUE);
            }
            outside("3: head", BAD_VALUE, Edges::rich, (x, v) -> x.addMachine(chosen, 1, v, 9), -1, 4, LOW, HIGH);
        }
        range("3: quality", 1, 100, 2, BAD_VALUE, Edges::rich, (x, v) -> x.addMachine(REEL, 1, FULL_TRACK, v));
        for (int quality : new int[] {1, 100}) {
            properties("3: quality " + quality, after(empty(), x -> x.addMachine(DISC, 6, PAIRED_TRACK, quality)),
                    (x, v) -> x.machine(0, v), DISC, 6, PAIRED_TRACK, quality, 28800, 0);
        }
    }

    private static void roomForMachines() {
        Call one = x -> x.addMachine(REEL, 7, FULL_TRACK, 9);
        for (int count = 0; count <= 3; count++) {
            due("3: machine " + count, machines(count), one, count);
        }
        recorded("3: the first machine", empty(), one, 0);
        recorded("3: the last machine", machines(3), one, 3);
        recordedWithTheReason("3: a machine", one, 2);
        keeps("3: a fifth machine", machines(4), one, FULL);
        keeps("3: a wrong kind before no room", machines(4), x -> x.addMachine(3, 7, FULL_TRACK, 9), BAD_VALUE);
        keeps("3: no speeds before no room", machines(4), x -> x.addMachine(REEL, 0, FULL_TRACK, 9), BAD_VALUE);
        keeps("3: a wrong head before no room", machines(4), x -> x.addMachine(REEL, 7, PAIRED_TRACK, 9), BAD_VALUE);
        keeps("3: quality 101 before no room", machines(4), x -> x.addMachine(REEL, 7, FULL_TRACK, 101), BAD_VALUE);
        due("3: room again after undo", after(machines(4), x -> x.undo()), one, 3);
        Build again = after(empty(), x -> x.addCarrier(DISC, 33, HALF_TRACK, 9, 9), x -> x.addMachine(DISC, 1, HALF_TRACK, 50),
                x -> x.transfer(0, 0, 33, 0), times(2, x -> x.undo()), one);
        properties("22: a machine in place of one that was undone", again, (x, v) -> x.machine(0, v),
                REEL, 7, FULL_TRACK, 9, 28800, 0);
    }

    // ---- promise 4

    private static void carriersOfRecordings() {
        Call one = x -> x.addRecording(0, 1, 0, 1);
        keeps("4: no carrier at all", empty(), one, BAD_INDEX);
        numbers("4: carrier", 2, Edges::rich, (x, v) -> x.addRecording(v, 1, 40, 45));
        numbers("4: carrier of eight", 8, carriers(8), (x, v) -> x.addRecording(v, 1, 0, 1));
        due("4: on the last carrier", carriers(8), x -> x.addRecording(7, 1, 0, 1), 0);
        keeps("4: no carrier before wrong tracks", Edges::rich, x -> x.addRecording(2, 0, 0, 1), BAD_INDEX);
        keeps("4: no carrier before a wrong start", Edges::rich, x -> x.addRecording(2, 1, -1, 1), BAD_INDEX);
        keeps("4: no carrier before a wrong end", Edges::rich, x -> x.addRecording(-1, 1, 0, 0), BAD_INDEX);
        keeps("4: no carrier before no room", recordings(16), x -> x.addRecording(2, 1, 60, 61), BAD_INDEX);
    }

    /** For each layout the sets of tracks on side 0 and on side 1. */
    private static void tracksOfRecordings() {
        int[][][] sides = {{{1}, {}}, {{1}, {2}}, {{1, 4, 5}, {2, 8, 10}}, {{1, 2, 3}, {4, 8, 12}}};
        int[] kinds = {REEL, REEL, REEL, DISC};
        for (int layout = 0; layout <= 3; layout++) {
            int own = layout;
            Build build = after(empty(), x -> x.addCarrier(kinds[own], SPEEDS[kinds[own]][0], own, 100, 9));
            for (int tracks = -1; tracks <= 32; tracks++) {
                int set = tracks;
                int side = has(sides[layout][0], set) ? 0 : has(sides[layout][1], set) ? 1 : -1;
                String name = "4: tracks " + tracks + " of layout " + layout;
                due(name, build, x -> x.addRecording(0, set, 0, 1), side < 0 ? BAD_VALUE : 0);
                due(name + ": the side", after(build, x -> x.addRecording(0, set, 0, 1)), x -> x.recording(0, 4),
                        side < 0 ? BAD_INDEX : side);
            }
            outside("4: tracks of layout " + layout, BAD_VALUE, build, (x, v) -> x.addRecording(0, v, 0, 1),
                    LOW, HIGH, -1, 0, 16, 1 << 30, LOW | 1, 17, 33);
        }
        outside("4: tracks", BAD_VALUE, Edges::rich, (x, v) -> x.addRecording(0, v, 200, 300), LOW, HIGH, -1, 0, 3, 4);
    }

    private static void secondsOfRecordings() {
        range("4: start", 0, 99, 0, BAD_VALUE, disc(100), (x, v) -> x.addRecording(0, 1, v, 100));
        range("4: end", 1, 100, 0, BAD_VALUE, disc(100), (x, v) -> x.addRecording(0, 1, 0, v));
        range("4: end behind 40", 41, 100, 0, BAD_VALUE, disc(100), (x, v) -> x.addRecording(0, 1, 40, v));
        range("4: start before 40", 0, 39, 0, BAD_VALUE, disc(100), (x, v) -> x.addRecording(0, 1, v, 40));
        due("4: the last second", disc(100), x -> x.addRecording(0, 1, 99, 100), 0);
        keeps("4: behind the last second", disc(100), x -> x.addRecording(0, 1, 100, 101), BAD_VALUE);
        keeps("4: nothing behind the last second", disc(100), x -> x.addRecording(0, 1, 100, 100), BAD_VALUE);
        due("4: the only second", disc(1), x -> x.addRecording(0, 1, 0, 1), 0);
        keeps("4: behind the only second", disc(1), x -> x.addRecording(0, 1, 0, 2), BAD_VALUE);
        due("4: the longest", disc(3600), x -> x.addRecording(0, 1, 0, 3600), 0);
        keeps("4: longer than the longest", disc(3600), x -> x.addRecording(0, 1, 0, 3601), BAD_VALUE);
        keeps("4: the far ends", disc(3600), x -> x.addRecording(0, 1, LOW, HIGH), BAD_VALUE);
        keeps("4: the far ends turned round", disc(3600), x -> x.addRecording(0, 1, HIGH, LOW), BAD_VALUE);
    }

    private static void roomForRecordings() {
        Call one = x -> x.addRecording(0, 2, 90, 100);
        for (int count = 0; count <= 15; count++) {
            due("4: recording " + count, recordings(count), one, count);
        }
        recorded("4: the first recording", disc(100), one, 0);
        recorded("4: the last recording", recordings(15), one, 15);
        recordedWithTheReason("4: a recording", x -> x.addRecording(0, 1, 150, 160), 3);
        keeps("4: a 17th recording", recordings(16), one, FULL);
        keeps("4: no room before a second that is taken", recordings(16), x -> x.addRecording(0, 1, 0, 1), FULL);
        keeps("4: wrong tracks before no room", recordings(16), x -> x.addRecording(0, 3, 90, 100), BAD_VALUE);
        keeps("4: a wrong start before no room", recordings(16), x -> x.addRecording(0, 2, -1, 100), BAD_VALUE);
        keeps("4: a wrong end before no room", recordings(16), x -> x.addRecording(0, 2, 90, 101), BAD_VALUE);
        due("4: room again after undo", after(recordings(16), x -> x.undo()), one, 15);
        Build again = after(disc(100), one, x -> x.addPart(0, 0, 5, 1, 1), times(2, x -> x.undo()),
                x -> x.addRecording(0, 1, 3, 7));
        properties("23: a recording in place of one that was undone", again, (x, v) -> x.recording(0, v), 0, 1, 3, 7, 0, 0);
    }

    /** Next to a recording of the seconds 20 to 40 on track 2 of a carrier with four tracks. */
    private static void secondsThatAreTaken() {
        Build build = after(empty(), x -> x.addCarrier(REEL, 95, QUARTER_TRACK, 100, 9),
                x -> x.addCarrier(REEL, 95, QUARTER_TRACK, 100, 9), x -> x.addRecording(0, 4, 20, 40));
        int[][] free = {{0, 20}, {19, 20}, {40, 41}, {40, 100}};
        for (int[] f : free) {
            due("4: next to it from " + f[0] + " to " + f[1], build, x -> x.addRecording(0, 4, f[0], f[1]), 1);
        }
        int[][] taken = {{20, 40}, {20, 21}, {39, 40}, {19, 21}, {39, 41}, {0, 100}, {25, 30}, {0, 21}, {39, 100}, {20, 41},
            {19, 40}};
        for (int[] t : taken) {
            keeps("4: taken from " + t[0] + " to " + t[1], build, x -> x.addRecording(0, 4, t[0], t[1]), NOT_POSSIBLE);
        }
        keeps("4: one of two tracks is taken", build, x -> x.addRecording(0, 5, 30, 31), NOT_POSSIBLE);
        due("4: another track of the side", build, x -> x.addRecording(0, 1, 20, 40), 1);
        due("4: the other side", build, x -> x.addRecording(0, 10, 20, 40), 1);
        due("4: another carrier", build, x -> x.addRecording(1, 4, 20, 40), 1);
        keeps("4: a wrong end before a second that is taken", build, x -> x.addRecording(0, 4, 30, 101), BAD_VALUE);
        keeps("4: wrong tracks before a second that is taken", build, x -> x.addRecording(0, 6, 30, 31), BAD_VALUE);
        keeps("4: two tracks, one taken", after(build, x -> x.addRecording(0, 5, 50, 60)),
                x -> x.addRecording(0, 1, 59, 60), NOT_POSSIBLE);
        keeps("4: taken by the last of 15", recordings(15), x -> x.addRecording(0, 1, 14, 15), NOT_POSSIBLE);
        keeps("4: taken by the first of 15", recordings(15), x -> x.addRecording(0, 1, 0, 1), NOT_POSSIBLE);
        due("4: between two", recordings(15), x -> x.addRecording(0, 1, 1, 2), 15);
    }

    // ---- promise 5

    private static void secondsOfParts() {
        keeps("5: no recording at all", disc(9), x -> x.addPart(0, 0, 1, 0, 0), BAD_INDEX);
        numbers("5: recording", 3, Edges::rich, (x, v) -> x.addPart(v, 0, 1, 0, 0));
        numbers("5: recording of 16", 16, recordings(16), (x, v) -> x.addPart(v, 0, 1, 0, 0));
        due("5: of the last recording", recordings(16), x -> x.addPart(15, 0, 1, 0, 0), 0);
        range("5: start", 0, 99, 0, BAD_VALUE, parts(0), (x, v) -> x.addPart(0, v, 100, 1, 9));
        range("5: end", 1, 100, 0, BAD_VALUE, parts(0), (x, v) -> x.addPart(0, 0, v, 1, 9));
        range("5: end behind 50", 51, 100, 0, BAD_VALUE, parts(0), (x, v) -> x.addPart(0, 50, v, 1, 9));
        range("5: start before 50", 0, 49, 0, BAD_VALUE, parts(0), (x, v) -> x.addPart(0, v, 50, 1, 9));
        keeps("5: behind the last second", parts(0), x -> x.addPart(0, 100, 101, 1, 9), BAD_VALUE);
        keeps("5: a second of the carrier that the recording lacks", parts(0), x -> x.addPart(0, 140, 150, 1, 9), BAD_VALUE);
        due("5: the only second", recordings(1), x -> x.addPart(0, 0, 1, 1, 9), 0);
        keeps("5: behind the only second", recordings(1), x -> x.addPart(0, 0, 2, 1, 9), BAD_VALUE);
        keeps("5: the far ends", parts(0), x -> x.addPart(0, LOW, HIGH, 1, 9), BAD_VALUE);
        keeps("5: the far ends turned round", parts(0), x -> x.addPart(0, HIGH, LOW, 1, 9), BAD_VALUE);
        range("5: holder", 0, 7, 1, BAD_VALUE, parts(1), (x, v) -> x.addPart(0, 0, 9, v, 9));
        range("5: free from", 0, 9999, 1, BAD_VALUE, parts(1), (x, v) -> x.addPart(0, 0, 9, 1, v));
    }

    private static void partsThatAreFree() {
        for (int free : new int[] {0, 6, 7}) {
            Build late = after(parts(0), toDay(7));
            recorded("5: free on day " + free + ", added on day 7", late, x -> x.addPart(0, 0, 9, 1, free), 0);
            due("24: it is not protected", after(late, x -> x.addPart(0, 0, 9, 1, free)), x -> x.part(0, 0, 4), 0);
        }
    }

    private static void roomForParts() {
        Call one = x -> x.addPart(0, 99, 100, 7, 9999);
        for (int count = 0; count <= 3; count++) {
            due("5: part " + count, parts(count), one, count);
        }
        recorded("5: the first part", parts(0), one, 0);
        recorded("5: the last part, which overlaps the others", parts(3), one, 3);
        recordedWithTheReason("5: a part", one, 2);
        keeps("5: a fifth part", parts(4), one, FULL);
        due("5: room in another recording", parts(4), x -> x.addPart(1, 0, 10, 1, 9), 0);
        keeps("5: no recording before no room", parts(4), x -> x.addPart(2, 0, 10, 1, 9), BAD_INDEX);
        keeps("5: no recording before a wrong start", parts(4), x -> x.addPart(2, -1, 10, 1, 9), BAD_INDEX);
        keeps("5: no recording before a wrong holder", parts(4), x -> x.addPart(-1, 0, 10, 8, 9), BAD_INDEX);
        keeps("5: no recording before a wrong day", parts(4), x -> x.addPart(-1, 0, 10, 1, -1), BAD_INDEX);
        keeps("5: a wrong start before no room", parts(4), x -> x.addPart(0, -1, 10, 1, 9), BAD_VALUE);
        keeps("5: a wrong end before no room", parts(4), x -> x.addPart(0, 0, 101, 1, 9), BAD_VALUE);
        keeps("5: a wrong holder before no room", parts(4), x -> x.addPart(0, 0, 10, 8, 9), BAD_VALUE);
        keeps("5: a wrong day before no room", parts(4), x -> x.addPart(0, 0, 10, 1, 10000), BAD_VALUE);
        due("5: room again after undo", after(parts(4), x -> x.undo()), one, 3);
    }

    // ---- promises 21 to 24

    private static void lookingAtCarriersAndMachines() {
        properties("21: carrier 0", Edges::rich, (x, v) -> x.carrier(0, v), REEL, 190, HALF_TRACK, 600, 8, 1, 2);
        properties("21: carrier 1", Edges::rich, (x, v) -> x.carrier(1, v), DISC, 45, PAIRED_TRACK, 100, 2, 1, 1);
        numbers("21: carrier", 2, Edges::rich, (x, v) -> x.carrier(v, 0));
        numbers("21: carrier of eight", 8, carriers(8), (x, v) -> x.carrier(v, 6));
        numbers("21: no carrier before a wrong property", 2, Edges::rich, (x, v) -> x.carrier(v, 7));
        numbers("21: no carrier before a wrong property", 2, Edges::rich, (x, v) -> x.carrier(v, -1));
        properties("22: machine 0", Edges::rich, (x, v) -> x.machine(0, v), REEL, 7, QUARTER_TRACK, 90, 28800, 1);
        properties("22: machine 1", Edges::rich, (x, v) -> x.machine(1, v), DISC, 7, PAIRED_TRACK, 80, 28700, 1);
        numbers("22: machine", 2, Edges::rich, (x, v) -> x.machine(v, 0));
        numbers("22: machine of four", 4, machines(4), (x, v) -> x.machine(v, 5));
        numbers("22: no machine before a wrong property", 2, Edges::rich, (x, v) -> x.machine(v, 6));
        numbers("22: no machine before a wrong property", 2, Edges::rich, (x, v) -> x.machine(v, -1));
    }

    private static void lookingAtRecordingsAndParts() {
        properties("23: recording 0", Edges::rich, (x, v) -> x.recording(0, v), 0, 1, 50, 150, 0, 2);
        properties("23: recording 1", Edges::rich, (x, v) -> x.recording(1, v), 0, 2, 0, 600, 1, 0);
        properties("23: recording 2", Edges::rich, (x, v) -> x.recording(2, v), 1, 3, 0, 40, 0, 0);
        numbers("23: recording", 3, Edges::rich, (x, v) -> x.recording(v, 0));
        numbers("23: recording of 16", 16, recordings(16), (x, v) -> x.recording(v, 5));
        numbers("23: no recording before a wrong property", 3, Edges::rich, (x, v) -> x.recording(v, 6));
        numbers("23: no recording before a wrong property", 3, Edges::rich, (x, v) -> x.recording(v, -1));
        properties("24: part 0", Edges::rich, (x, v) -> x.part(0, 0, v), 0, 60, 1, 40, 1);
        properties("24: part 1", Edges::rich, (x, v) -> x.part(0, 1, v), 50, 100, 2, 50, 1);
        numbers("24: recording", 1, Edges::rich, (x, v) -> x.part(v, 0, 0));
        keeps("24: a recording behind the last one", Edges::rich, x -> x.part(3, 0, 0), BAD_INDEX);
        numbers("24: recording of 16", 0, recordings(16), (x, v) -> x.part(v, 0, 0));
        numbers("24: part", 2, Edges::rich, (x, v) -> x.part(0, v, 0));
        numbers("24: part of four", 4, parts(4), (x, v) -> x.part(0, v, 4));
        numbers("24: part of none", 0, parts(4), (x, v) -> x.part(1, v, 0));
        numbers("24: no recording before a wrong property", 1, Edges::rich, (x, v) -> x.part(v, 0, 5));
        numbers("24: no recording before a wrong property", 1, Edges::rich, (x, v) -> x.part(v, 0, -1));
        numbers("24: no part before a wrong property", 2, Edges::rich, (x, v) -> x.part(0, v, 5));
        numbers("24: no part before a wrong property", 2, Edges::rich, (x, v) -> x.part(0, v, -1));
    }

    private static void thingsOfUnlikeNumbers() {
        properties("21: carrier 0", Edges::unlike, (x, v) -> x.carrier(0, v), CASSETTE, 48, PAIRED_TRACK, 60, 8, 1, 1);
        properties("21: carrier 1", Edges::unlike, (x, v) -> x.carrier(1, v), DISC, 45, HALF_TRACK, 100, 5, 0, 2);
        properties("21: carrier 2", Edges::unlike, (x, v) -> x.carrier(2, v), REEL, 190, QUARTER_TRACK, 600, 18, 2, 2);
        properties("22: machine 0", Edges::unlike, (x, v) -> x.machine(0, v), CASSETTE, 1, PAIRED_TRACK, 70, 28800, 1);
        properties("22: machine 1", Edges::unlike, (x, v) -> x.machine(1, v), REEL, 7, QUARTER_TRACK, 90, 27000, 2);
        properties("23: recording 3", Edges::unlike, (x, v) -> x.recording(3, v), 2, 8, 100, 300, 1, 2);
        properties("23: recording 4", Edges::unlike, (x, v) -> x.recording(4, v), 2, 1, 7, 20, 0, 1);
        properties("24: part 1 of recording 3", Edges::unlike, (x, v) -> x.part(3, 1, v), 40, 200, 6, 40, 1);
        properties("24: part 0 of recording 4", Edges::unlike, (x, v) -> x.part(4, 0, v), 0, 13, 4, 99, 1);
        properties("24: part 0 of recording 2", Edges::unlike, (x, v) -> x.part(2, 0, v), 0, 100, 3, 50, 1);
    }

    /** The parts of the last recording and of the one before it do not meet. */
    private static void partsOfTheLastRecording() {
        Build build = after(empty(), x -> x.addCarrier(DISC, 33, HALF_TRACK, 160, 9),
                times(16, x -> x.addRecording(0, 1, 10 * x.total(3), 10 * x.total(3) + 10)),
                times(4, x -> x.addPart(14, x.recording(14, 5), 10, 1, 30 + x.recording(14, 5))),
                times(4, x -> x.addPart(15, 0, 1 + x.recording(15, 5), 7, 20 + x.recording(15, 5))),
                times(4, x -> x.addPart(0, 0, 9, x.recording(0, 5), 9999)));
        for (int part = 0; part <= 3; part++) {
            int chosen = part;
            properties("24: part " + part + " of recording 15", build, (x, v) -> x.part(15, chosen, v),
                    0, 1 + part, 7, 20 + part, 1);
            properties("24: part " + part + " of recording 14", build, (x, v) -> x.part(14, chosen, v),
                    part, 10, 1, 30 + part, 1);
            properties("24: part " + part + " of recording 0", build, (x, v) -> x.part(0, chosen, v), 0, 9, part, 9999, 1);
        }
    }

    private static void protectedParts() {
        for (int free : new int[] {0, 1, 9, 9999}) {
            Build build = after(parts(0), x -> x.addPart(0, 0, 9, 1, free));
            if (free > 0) {
                due("24: protected on the day before " + free, after(build, toDay(free - 1)), x -> x.part(0, 0, 4), 1);
            }
            due("24: free from day " + free + " on", after(build, toDay(free)), x -> x.part(0, 0, 4), 0);
            due("24: free later", after(build, toDay(Math.min(9999, free + 1))), x -> x.part(0, 0, 4), 0);
            due("24: its day", build, x -> x.part(0, 0, 3), free);
        }
    }

    public static void main(String[] args) {
        aNewObject();
        speedsOfCarriers();
        kindsOfCarriers();
        sizesOfCarriers();
        roomForCarriers();
        speedsOfMachines();
        kindsOfMachines();
        roomForMachines();
        carriersOfRecordings();
        tracksOfRecordings();
        secondsOfRecordings();
        roomForRecordings();
        secondsThatAreTaken();
        secondsOfParts();
        partsThatAreFree();
        roomForParts();
        lookingAtCarriersAndMachines();
        lookingAtRecordingsAndParts();
        thingsOfUnlikeNumbers();
        partsOfTheLastRecording();
        protectedParts();
        Check.finish();
    }
}
