/** Promises 1 to 5 and 21 to 24: a new object; carriers, machines, recordings and parts. */
public final class CarriersTest {
    private static final int BAD_INDEX = SoundArchive.BAD_INDEX;
    private static final int BAD_VALUE = SoundArchive.BAD_VALUE;
    private static final int NOT_POSSIBLE = SoundArchive.NOT_POSSIBLE;
    private static final int FULL = SoundArchive.FULL;
    private static final int NONE = SoundArchive.NONE;
    private static final int[] SPEEDS = {33, 45, 78, 95, 190, 380, 48};
    private static final int[] OUTSIDE = {-1, 7, 100, Integer.MIN_VALUE, Integer.MAX_VALUE};

    private static void newObject() {
        SoundArchive x = new SoundArchive();
        for (int property = 0; property <= 13; property++) {
            Check.due("new: total " + property, x.total(property), 0);
        }
        for (int person = 0; person < 8; person++) {
            Check.due("new: income", x.income(person), 0);
            Check.due("new: paid", x.paid(person), 0);
        }
        Check.due("new: carrier", x.carrier(0, 0), BAD_INDEX);
        Check.due("new: machine", x.machine(0, 0), BAD_INDEX);
        Check.due("new: recording", x.recording(0, 0), BAD_INDEX);
        Check.due("new: part", x.part(0, 0, 0), BAD_INDEX);
        Check.due("new: pass", x.pass(0, 0), BAD_INDEX);
        Check.due("new: permission", x.permission(0, 0), BAD_INDEX);
        Check.due("new: request", x.requested(0, 0), BAD_INDEX);
        Check.due("new: next", x.next(0), NONE);
        Check.due("new: text", x.clearText(), 0);
        Check.due("new: fault", x.faultPosition(), NONE);
        Check.due("new: undo", x.undo(), NOT_POSSIBLE);
        Check.due("new: slot 0", x.restore(0), NOT_POSSIBLE);
        Check.due("new: slot 1", x.restore(1), NOT_POSSIBLE);
    }

    private static boolean kindHasSpeed(int kind, int speed) {
        return kind == 0 ? speed < 90 && speed != 48 : kind == 1 ? speed > 90 : speed == 48;
    }

    private static boolean kindHasLayout(int kind, int layout) {
        return kind == 1 ? layout <= 2 : layout == 1 || layout == 3;
    }

    private static void carriersOfEveryKind() {
        for (int kind = 0; kind <= 2; kind++) {
            for (int layout = 0; layout <= 3; layout++) {
                SoundArchive x = new SoundArchive();
                int number = 0;
                for (int speed : SPEEDS) {
                    boolean isGood = kindHasSpeed(kind, speed) && kindHasLayout(kind, layout);
                    int due = isGood ? number : BAD_VALUE;
                    Check.due("carrier " + kind + " " + speed + " " + layout, x.addCarrier(kind, speed, layout, 10, 5), due);
                    if (isGood) {
                        Check.due("its kind", x.carrier(number, 0), kind);
                        Check.due("its speed", x.carrier(number, 1), speed);
                        Check.due("its layout", x.carrier(number, 2), layout);
                        number++;
                    }
                }
                Check.due("carriers", x.total(1), number);
                Check.due("records", x.total(12), number);
            }
        }
    }

    private static void carrierEdges() {
        SoundArchive x = new SoundArchive();
        for (int bad : OUTSIDE) {
            Check.due("kind " + bad, x.addCarrier(bad, 33, 1, 10, 5), BAD_VALUE);
            Check.due("layout " + bad, x.addCarrier(0, 33, bad, 10, 5), BAD_VALUE);
            Check.due("speed " + bad, x.addCarrier(2, bad, 1, 10, 5), BAD_VALUE);
        }
        Check.due("speed 0", x.addCarrier(2, 0, 1, 10, 5), BAD_VALUE);
        Check.due("kind 3", x.addCarrier(3, 48, 1, 10, 5), BAD_VALUE);
        Check.due("length 0", x.addCarrier(0, 33, 1, 0, 5), BAD_VALUE);
        Check.due("length 3601", x.addCarrier(0, 33, 1, 3601, 5), BAD_VALUE);
        Check.due("length below", x.addCarrier(0, 33, 1, Integer.MIN_VALUE, 5), BAD_VALUE);
        Check.due("plays 0", x.addCarrier(0, 33, 1, 10, 0), BAD_VALUE);
        Check.due("plays 100", x.addCarrier(0, 33, 1, 10, 100), BAD_VALUE);
        Check.due("records", x.total(12), 0);
        Check.due("shortest", x.addCarrier(0, 33, 1, 1, 1), 0);
        Check.due("longest", x.addCarrier(0, 33, 1, 3600, 99), 1);
        Check.due("its length", x.carrier(1, 3), 3600);
        Check.due("its plays", x.carrier(1, 4), 99);
        Check.due("its passes", x.carrier(1, 5), 0);
        Check.due("its recordings", x.carrier(1, 6), 0);
        for (int i = 2; i < 8; i++) {
            Check.due("carrier " + i, x.addCarrier(2, 48, 3, 7, 7), i);
        }
        Check.due("a ninth", x.addCarrier(2, 48, 3, 7, 7), FULL);
        Check.due("a wrong ninth", x.addCarrier(2, 48, 0, 7, 7), BAD_VALUE);
        Check.due("carriers", x.total(1), 8);
        Check.due("property 7", x.carrier(7, 7), BAD_VALUE);
        Check.due("property -1", x.carrier(7, -1), BAD_VALUE);
        Check.due("carrier 8", x.carrier(8, 0), BAD_INDEX);
        Check.due("carrier -1, property 7", x.carrier(-1, 7), BAD_INDEX);
    }

    private static void machines() {
        SoundArchive x = new SoundArchive();
        for (int kind = 0; kind <= 2; kind++) {
            for (int head = -1; head <= 4; head++) {
                boolean isGood = head >= 0 && head <= 3 && kindHasLayout(kind, head);
                SoundArchive y = new SoundArchive();
                Check.due("head " + head + " of " + kind, y.addMachine(kind, 1, head, 50), isGood ? 0 : BAD_VALUE);
            }
            Check.due("no speeds", x.addMachine(kind, 0, 1, 50), BAD_VALUE);
            Check.due("too many speeds", x.addMachine(kind, kind == 2 ? 2 : 8, 1, 50), BAD_VALUE);
            Check.due("speeds below 0", x.addMachine(kind, -1, 1, 50), BAD_VALUE);
            Check.due("quality 0", x.addMachine(kind, 1, 1, 0), BAD_VALUE);
            Check.due("quality 101", x.addMachine(kind, 1, 1, 101), BAD_VALUE);
        }
        for (int bad : OUTSIDE) {
            Check.due("kind " + bad, x.addMachine(bad, 1, 1, 50), BAD_VALUE);
        }
        Check.due("cassettes with 7 speeds", x.addMachine(2, 7, 1, 50), BAD_VALUE);
        Check.due("records", x.total(12), 0);
        Check.due("reel", x.addMachine(1, 7, 2, 100), 0);
        Check.due("disc", x.addMachine(0, 6, 3, 1), 1);
        Check.due("cassette", x.addMachine(2, 1, 1, 50), 2);
        int[][] due = {{1, 7, 2, 100, 28800, 0}, {0, 6, 3, 1, 28800, 0}, {2, 1, 1, 50, 28800, 0}};
        for (int machine = 0; machine < 3; machine++) {
            for (int property = 0; property < 6; property++) {
                Check.due("machine " + machine + " " + property, x.machine(machine, property), due[machine][property]);
            }
        }
        Check.due("property 6", x.machine(0, 6), BAD_VALUE);
        Check.due("property -1", x.machine(0, -1), BAD_VALUE);
        Check.due("machine 3", x.machine(3, 9), BAD_INDEX);
        Check.due("machine -1", x.machine(-1, 0), BAD_INDEX);
        Check.due("fourth", x.addMachine(2, 1, 1, 50), 3);
        Check.due("fifth", x.addMachine(2, 1, 1, 50), FULL);
        Check.due("wrong fifth", x.addMachine(2, 2, 1, 50), BAD_VALUE);
        Check.due("machines", x.total(2), 4);
        Check.due("records", x.total(12), 4);
    }

    private static void tracksOfRecordings() {
        int[][] carriers = {{1, 95, 0}, {0, 33, 1}, {1, 95, 2}, {2, 48, 3}};
        int[][] good = {{1}, {1, 2}, {1, 2, 4, 5, 8, 10}, {1, 2, 3, 4, 8, 12}};
        int[][] side = {{0}, {0, 1}, {0, 1, 0, 0, 1, 1}, {0, 0, 0, 1, 1, 1}};
        for (int layout = 0; layout <= 3; layout++) {
            for (int tracks = -2; tracks <= 33; tracks++) {
                SoundArchive x = new SoundArchive();
                x.addCarrier(carriers[layout][0], carriers[layout][1], layout, 100, 5);
                int due = BAD_VALUE;
                int dueSide = BAD_INDEX;
                for (int i = 0; i < good[layout].length; i++) {
                    if (good[layout][i] == tracks) {
                        due = 0;
                        dueSide = side[layout][i];
                    }
                }
                Check.due("layout " + layout + " tracks " + tracks, x.addRecording(0, tracks, 0, 1), due);
                Check.due("its side", x.recording(0, 4), dueSide);
            }
        }
    }

    private static void recordings() {
        SoundArchive x = new SoundArchive();
        Check.due("no carrier", x.addRecording(0, 0, -1, -1), BAD_INDEX);
        x.addCarrier(1, 95, 2, 100, 5);
        x.addCarrier(1, 95, 2, 50, 5);
        Check.due("carrier -1", x.addRecording(-1, 1, 0, 10), BAD_INDEX);
        Check.due("carrier 2", x.addRecording(2, 1, 0, 10), BAD_INDEX);
        Check.due("from -1", x.addRecording(0, 1, -1, 10), BAD_VALUE);
        Check.due("from the length", x.addRecording(0, 1, 100, 101), BAD_VALUE);
        Check.due("to beyond", x.addRecording(0, 1, 0, 101), BAD_VALUE);
        Check.due("to from", x.addRecording(0, 1, 5, 5), BAD_VALUE);
        Check.due("to below from", x.addRecording(0, 1, 5, Integer.MIN_VALUE), BAD_VALUE);
        Check.due("from far below", x.addRecording(0, 1, Integer.MIN_VALUE, 5), BAD_VALUE);
        Check.due("0 on track 2", x.addRecording(0, 4, 20, 40), 0);
        Check.due("before it", x.addRecording(0, 4, 0, 20), 1);
        Check.due("behind it", x.addRecording(0, 5, 40, 100), 2);
        Check.due("its last second", x.addRecording(0, 5, 39, 40), NOT_POSSIBLE);
        Check.due("its first second", x.addRecording(0, 4, 20, 21), NOT_POSSIBLE);
        Check.due("around it", x.addRecording(0, 4, 0, 100), NOT_POSSIBLE);
        Check.due("within it", x.addRecording(0, 4, 25, 30), NOT_POSSIBLE);
        Check.due("another track", x.addRecording(0, 1, 20, 40), 3);
        Check.due("the other side", x.addRecording(0, 10, 0, 100), 4);
        Check.due("another carrier", x.addRecording(1, 4, 20, 50), 5);
        int[] due = {0, 5, 40, 100, 0, 0};
        for (int property = 0; property < 6; property++) {
            Check.due("recording 2 " + property, x.recording(2, property), due[property]);
        }
        Check.due("on the other side", x.recording(4, 4), 1);
        Check.due("its carrier", x.recording(5, 0), 1);
        Check.due("recordings of carrier 0", x.carrier(0, 6), 5);
        Check.due("recordings of carrier 1", x.carrier(1, 6), 1);
        Check.due("property 6", x.recording(0, 6), BAD_VALUE);
        Check.due("property -1", x.recording(0, -1), BAD_VALUE);
        Check.due("recording 6", x.recording(6, 0), BAD_INDEX);
        Check.due("recording -1", x.recording(-1, 8), BAD_INDEX);
        for (int i = 6; i < 16; i++) {
            Check.due("recording " + i, x.addRecording(1, 1, i, i + 1), i);
        }
        Check.due("a 17th that is taken", x.addRecording(1, 1, 6, 7), FULL);
        Check.due("a 17th", x.addRecording(1, 1, 30, 31), FULL);
        Check.due("a wrong 17th", x.addRecording(1, 3, 30, 31), BAD_VALUE);
        Check.due("recordings", x.total(3), 16);
    }

    private static void parts() {
        SoundArchive x = new SoundArchive();
        Check.due("no recording", x.addPart(0, -1, 0, 9, 0), BAD_INDEX);
        x.addCarrier(1, 95, 2, 100, 5);
        x.addRecording(0, 1, 30, 80);
        x.addRecording(0, 2, 0, 100);
        Check.due("recording -1", x.addPart(-1, 0, 1, 0, 0), BAD_INDEX);
        Check.due("recording 2", x.addPart(2, 0, 1, 0, 0), BAD_INDEX);
        Check.due("from -1", x.addPart(0, -1, 1, 0, 0), BAD_VALUE);
        Check.due("from 50", x.addPart(0, 50, 51, 0, 0), BAD_VALUE);
        Check.due("to 51", x.addPart(0, 49, 51, 0, 0), BAD_VALUE);
        Check.due("to from", x.addPart(0, 9, 9, 0, 0), BAD_VALUE);
        Check.due("holder -1", x.addPart(0, 0, 1, -1, 0), BAD_VALUE);
        Check.due("holder 8", x.addPart(0, 0, 1, 8, 0), BAD_VALUE);
        Check.due("free -1", x.addPart(0, 0, 1, 0, -1), BAD_VALUE);
        Check.due("free 10000", x.addPart(0, 0, 1, 0, 10000), BAD_VALUE);
        Check.due("first", x.addPart(0, 0, 50, 7, 9999), 0);
        Check.due("second, which overlaps", x.addPart(0, 49, 50, 0, 0), 1);
        Check.due("of the other recording", x.addPart(1, 99, 100, 3, 4), 0);
        Check.due("third", x.addPart(0, 10, 20, 5, 1), 2);
        Check.due("fourth", x.addPart(0, 10, 20, 5, 1), 3);
        Check.due("fifth", x.addPart(0, 10, 20, 5, 1), FULL);
        Check.due("wrong fifth", x.addPart(0, 10, 20, 8, 1), BAD_VALUE);
        Check.due("parts", x.recording(0, 5), 4);
        Check.due("parts of the other", x.recording(1, 5), 1);
        int[][] due = {{0, 50, 7, 9999, 1}, {49, 50, 0, 0, 0}, {10, 20, 5, 1, 1}};
        for (int part = 0; part < 3; part++) {
            for (int property = 0; property < 5; property++) {
                Check.due("part " + part + " " + property, x.part(0, part, property), due[part][property]);
            }
        }
        Check.due("the other's", x.part(1, 0, 0), 99);
        Check.due("recording 2", x.part(2, 0, 0), BAD_INDEX);
        Check.due("recording -1", x.part(-1, 0, 0), BAD_INDEX);
        Check.due("part 1 of the other", x.part(1, 1, 7), BAD_INDEX);
        Check.due("part -1", x.part(1, -1, 0), BAD_INDEX);
        Check.due("part 4", x.part(0, 4, 0), BAD_INDEX);
        Check.due("property 5", x.part(0, 0, 5), BAD_VALUE);
        Check.due("property -1", x.part(0, 0, -1), BAD_VALUE);
        x.passDays(1);
        Check.due("free from day 1 on", x.part(0, 2, 4), 0);
        Check.due("still protected", x.part(0, 0, 4), 1);
    }

    private static void partsOfTheLastRecording() {
        SoundArchive x = new SoundArchive();
        x.addCarrier(1, 95, 2, 100, 5);
        for (int i = 0; i < 16; i++) {
            x.addRecording(0, 1, 5 * i, 5 * i + 5);
        }
        for (int i = 0; i < 4; i++) {
            Check.due("part " + i + " of recording 15", x.addPart(15, i, i + 1, i + 4, 10 + i), i);
            Check.due("part " + i + " of recording 14", x.addPart(14, i, 5, i, 20 + i), i);
        }
        for (int i = 0; i < 4; i++) {
            int[] due = {i, i + 1, i + 4, 10 + i, 1};
            for (int property = 0; property < 5; property++) {
                Check.due("part " + i + " of recording 15", x.part(15, i, property), due[property]);
            }
            Check.due("part " + i + " of recording 14", x.part(14, i, 1), 5);
        }
    }

    public static void main(String[] args) {
        newObject();
        carriersOfEveryKind();
        carrierEdges();
        machines();
        tracksOfRecordings();
        recordings();
        parts();
        partsOfTheLastRecording();
        Check.finish();
    }
}
