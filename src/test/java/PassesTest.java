/** Promises 6, 25 to 28 and 37 to 40: passes that are made, looked at and planned. */
public final class PassesTest {
    private static final int BAD_INDEX = SoundArchive.BAD_INDEX;
    private static final int BAD_VALUE = SoundArchive.BAD_VALUE;
    private static final int NOT_POSSIBLE = SoundArchive.NOT_POSSIBLE;
    private static final int REFUSED = SoundArchive.REFUSED;
    private static final int NONE = SoundArchive.NONE;

    private static void refused(String what, SoundArchive x, int got, int reason) {
        Check.due(what, got, REFUSED);
        Check.due(what + ": the reason", x.total(11), reason);
    }

    /** What each head hears of each track of each layout, at quality 100 and equal speeds. */
    private static void headsAndLayouts() {
        // {kind, speed, layout of the carrier, head, captures with side 0 up, captures with side 1 up}
        int[][] due = {
            {1, 95, 0, 0, 100, 0, 0, 0, 100, 0, 0, 0},
            {1, 95, 0, 1, 50, 0, 0, 0, 50, 0, 0, 0},
            {1, 95, 0, 2, 25, 0, 0, 0, 25, 0, 0, 0},
            {1, 95, 1, 0, 0, 0, 0, 0, 0, 0, 0, 0},
            {1, 95, 1, 1, 100, 0, 0, 0, 0, 100, 0, 0},
            {1, 95, 1, 2, 50, 50, 0, 0, 50, 50, 0, 0},
            {1, 95, 2, 0, 0, 0, 0, 0, 0, 0, 0, 0},
            {1, 95, 2, 1, 0, 0, 0, 0, 0, 0, 0, 0},
            {1, 95, 2, 2, 100, 0, 100, 0, 0, 100, 0, 100},
            {0, 33, 1, 1, 100, 0, 0, 0, 0, 100, 0, 0},
            {0, 33, 1, 3, 50, 0, 0, 0, 0, 50, 0, 0},
            {2, 48, 3, 1, 0, 0, 0, 0, 0, 0, 0, 0},
            {2, 48, 3, 3, 100, 100, 0, 0, 0, 0, 100, 100}};
        for (int[] row : due) {
            SoundArchive x = new SoundArchive();
            x.addCarrier(row[0], row[1], row[2], 100, 9);
            x.addMachine(row[0], 1, row[3], 100);
            int tracks = row[2] == 0 ? 1 : row[2] == 1 ? 2 : 4;
            for (int side = 0; side <= 1; side++) {
                for (int track = 0; track < 4; track++) {
                    int capture = track < tracks ? row[4 + 4 * side + track] : BAD_INDEX;
                    Check.due("layout " + row[2] + " head " + row[3] + " side " + side + " track " + track,
                            x.heard(0, 0, row[1], side, track), capture);
                }
            }
        }
    }

    private static void backwards() {
        SoundArchive x = new SoundArchive();
        x.addCarrier(1, 95, 1, 100, 9);
        x.addCarrier(1, 95, 0, 100, 9);
        x.addMachine(1, 1, 2, 90);
        Check.due("half track, side 0", x.transfer(0, 0, 95, 0), 0);
        Check.due("half track, side 1", x.transfer(0, 0, 95, 1), 1);
        Check.due("full track, side 0", x.transfer(1, 0, 95, 0), 2);
        Check.due("full track, side 1", x.transfer(1, 0, 95, 1), 3);
        int[][] due = {{3, 2}, {3, 1}, {1, 0}, {1, 1}};
        for (int pass = 0; pass < 4; pass++) {
            Check.due("tracks of pass " + pass, x.pass(pass, 5), due[pass][0]);
            Check.due("backwards in pass " + pass, x.pass(pass, 6), due[pass][1]);
        }
    }

    private static void captures() {
        SoundArchive x = new SoundArchive();
        x.addCarrier(0, 45, 1, 101, 99);
        x.addMachine(0, 7, 3, 99);
        x.addMachine(0, 2, 1, 3);
        // 99 * 1 * 33 / (2 * 45) = 36.3; 99 / 2 = 49.5; 99 * 45 / (2 * 78) = 28.557
        Check.due("slower", x.heard(0, 0, 33, 0, 0), 36);
        Check.due("equal", x.heard(0, 0, 45, 0, 0), 49);
        Check.due("faster", x.heard(0, 0, 78, 0, 0), 28);
        Check.due("pass", x.transfer(0, 0, 33, 0), 0);
        Check.due("the pass", x.captured(0, 0), 36);
        Check.due("worn once", x.heard(0, 0, 45, 0, 0), 48);
        Check.due("worn once", x.transfer(0, 0, 45, 0), 1);
        Check.due("worn once", x.captured(1, 0), 48);
        Check.due("3 less 2", x.heard(0, 1, 45, 0, 0), 1);
        Check.due("1 is captured", x.transfer(0, 1, 45, 0), 2);
        Check.due("3 less 3", x.heard(0, 1, 45, 0, 0), 0);
        refused("0 is not", x, x.transfer(0, 1, 45, 0), 4);
        Check.due("below 0", x.transfer(0, 0, 45, 1), 3);
        Check.due("3 less 4", x.heard(0, 1, 45, 0, 0), 0);
        x.addCarrier(0, 45, 1, 101, 99);
        Check.due("another carrier is fresh", x.heard(1, 1, 45, 0, 0), 3);
        Check.due("passes of carrier 0", x.carrier(0, 5), 4);
        Check.due("passes of carrier 1", x.carrier(1, 5), 0);
        Check.due("passes on machine 0", x.machine(0, 5), 3);
        Check.due("passes on machine 1", x.machine(1, 5), 1);
        Check.due("kept as it was", x.captured(0, 0), 36);
    }

    private static void refusals() {
        SoundArchive x = new SoundArchive();
        Check.due("no carrier", x.transfer(0, 0, 9, 9), BAD_INDEX);
        x.addCarrier(1, 95, 1, 3600, 1);
        Check.due("no machine", x.transfer(0, 0, 9, 9), BAD_INDEX);
        x.addMachine(1, 5, 1, 100);
        x.addMachine(0, 7, 1, 100);
        Check.due("carrier 1", x.transfer(1, 0, 95, 0), BAD_INDEX);
        Check.due("carrier -1", x.transfer(-1, 0, 95, 0), BAD_INDEX);
        Check.due("machine 2", x.transfer(0, 2, 95, 0), BAD_INDEX);
        Check.due("machine -1", x.transfer(0, -1, 95, 0), BAD_INDEX);
        Check.due("a speed that it lacks", x.transfer(0, 0, 190, 0), BAD_VALUE);
        Check.due("a speed of another kind", x.transfer(0, 0, 33, 0), BAD_VALUE);
        Check.due("speed 0", x.transfer(0, 0, 0, 0), BAD_VALUE);
        Check.due("side 2", x.transfer(0, 0, 95, 2), BAD_VALUE);
        Check.due("side -1", x.transfer(0, 0, 95, -1), BAD_VALUE);
        Check.due("no reason yet", x.total(11), 0);
        refused("another kind", x, x.transfer(0, 1, 33, 0), 1);
        Check.due("another kind, a speed of neither", x.transfer(0, 1, 95, 0), BAD_VALUE);
        refused("two plays", x, x.transfer(0, 0, 380, 0), 2);
        Check.due("errors leave the reason", x.transfer(0, 0, 380, 2), BAD_VALUE);
        Check.due("the reason", x.total(11), 2);
        Check.due("a refusal is not recorded", x.total(12), 3);
        Check.due("one play", x.transfer(0, 0, 95, 0), 0);
        Check.due("the reason is gone", x.total(11), 0);
        Check.due("recorded", x.total(12), 4);
        Check.due("no play is left", x.carrier(0, 4), 0);
        Check.due("its time", x.machine(0, 4), 25200);
        refused("no plays", x, x.transfer(0, 0, 95, 0), 2);
    }

    private static void timeOfMachines() {
        SoundArchive x = new SoundArchive();
        x.addCarrier(1, 380, 1, 3600, 99);
        x.addMachine(1, 7, 1, 100);
        Check.due("14400 s", x.transfer(0, 0, 95, 0), 0);
        Check.due("half is left", x.machine(0, 4), 14400);
        Check.due("the other half", x.transfer(0, 0, 95, 1), 1);
        Check.due("nothing is left", x.machine(0, 4), 0);
        refused("no time", x, x.transfer(0, 0, 380, 0), 3);
        Check.due("the next day", x.passDays(1), 0);
        Check.due("all is left", x.machine(0, 4), 28800);
        Check.due("again", x.transfer(0, 0, 380, 0), 2);
        Check.due("day of the first", x.pass(0, 4), 0);
        Check.due("day of the third", x.pass(2, 4), 1);
        SoundArchive y = new SoundArchive();
        y.addCarrier(1, 95, 2, 3600, 1);
        y.addMachine(1, 7, 0, 100);
        refused("plays before tracks", y, y.transfer(0, 0, 190, 0), 2);
        refused("nothing captured", y, y.transfer(0, 0, 95, 0), 4);
        Check.due("no pass", y.total(4), 0);
        Check.due("no play", y.carrier(0, 4), 1);
    }

    private static void roomForPasses() {
        SoundArchive x = new SoundArchive();
        x.addCarrier(2, 48, 1, 10, 99);
        x.addCarrier(2, 48, 1, 10, 99);
        x.addMachine(2, 1, 1, 100);
        x.addMachine(2, 1, 1, 1);
        for (int i = 0; i < 24; i++) {
            Check.due("pass " + i, x.transfer(i % 2, 0, 48, i / 2 % 2), i);
        }
        refused("nothing captured comes before no room", x, x.transfer(0, 1, 48, 0), 4);
        refused("no room", x, x.transfer(0, 0, 48, 0), 5);
        Check.due("passes", x.total(4), 24);
        Check.due("plays", x.carrier(0, 4), 87);
        Check.due("the last one's capture", x.captured(23, 1), 89);
        refused("another kind comes first", x, otherKind(x), 1);
    }

    private static int otherKind(SoundArchive x) {
        x.addMachine(0, 1, 1, 100);
        return x.transfer(0, 2, 33, 0);
    }

    private static void lookingAtPasses() {
        SoundArchive x = new SoundArchive();
        x.addCarrier(2, 48, 3, 60, 9);
        x.addCarrier(0, 33, 1, 60, 9);
        x.addMachine(2, 1, 3, 80);
        x.addMachine(0, 7, 1, 70);
        x.passDays(3);
        x.transfer(1, 1, 45, 1);
        x.transfer(0, 0, 48, 1);
        int[][] due = {{1, 1, 45, 1, 3, 2, 0}, {0, 0, 48, 1, 3, 12, 0}};
        for (int pass = 0; pass < 2; pass++) {
            for (int property = 0; property < 7; property++) {
                Check.due("pass " + pass + " " + property, x.pass(pass, property), due[pass][property]);
            }
            Check.due("property 7", x.pass(pass, 7), BAD_VALUE);
            Check.due("property -1", x.pass(pass, -1), BAD_VALUE);
        }
        Check.due("pass 2", x.pass(2, 7), BAD_INDEX);
        Check.due("pass -1", x.pass(-1, 0), BAD_INDEX);
        Check.due("captured 1 0", x.captured(1, 0), 0);
        Check.due("captured 1 3", x.captured(1, 3), 80);
        Check.due("captured 1 4", x.captured(1, 4), BAD_INDEX);
        Check.due("captured 1 -1", x.captured(1, -1), BAD_INDEX);
        Check.due("captured 0 1", x.captured(0, 1), 51);
        Check.due("captured 0 2", x.captured(0, 2), BAD_INDEX);
        Check.due("captured 2 0", x.captured(2, 0), BAD_INDEX);
        Check.due("captured -1 0", x.captured(-1, 0), BAD_INDEX);
    }

    private static void bestPasses() {
        SoundArchive x = new SoundArchive();
        x.addCarrier(1, 190, 1, 60, 20);
        x.addCarrier(1, 190, 1, 60, 20);
        x.addMachine(1, 7, 1, 80);
        x.addMachine(1, 7, 2, 99);
        x.addRecording(0, 1, 0, 10);
        x.addRecording(0, 2, 0, 10);
        Check.due("none", x.bestPass(0), NONE);
        Check.due("no recording", x.bestPass(2), BAD_INDEX);
        Check.due("no recording", x.bestPass(-1), BAD_INDEX);
        x.transfer(0, 1, 95, 1);
        x.transfer(0, 0, 190, 1);
        x.transfer(0, 0, 190, 0);
        x.transfer(1, 0, 190, 0);
        // The captures of track 0 are 24, 0 and 78; those of track 1 are 24, 79 and 0.
        int[][] due = {{24, 0, 78, 0}, {24, 79, 0, 0}};
        for (int recording = 0; recording < 2; recording++) {
            for (int pass = 0; pass < 4; pass++) {
                Check.due("quality " + pass + " " + recording, x.quality(pass, recording), due[recording][pass]);
            }
        }
        Check.due("best for 0", x.bestPass(0), 2);
        Check.due("best for 1", x.bestPass(1), 1);
        x.addRecording(0, 2, 30, 40);
        Check.due("added later", x.bestPass(2), 1);
        Check.due("quality of pass 4", x.quality(4, 0), BAD_INDEX);
        Check.due("quality of pass -1", x.quality(-1, 0), BAD_INDEX);
        Check.due("quality of recording 3", x.quality(0, 3), BAD_INDEX);
        Check.due("quality of recording -1", x.quality(0, -1), BAD_INDEX);
        SoundArchive y = new SoundArchive();
        y.addCarrier(1, 190, 1, 60, 20);
        y.addMachine(1, 7, 1, 80);
        y.addMachine(1, 7, 1, 81);
        y.addRecording(0, 1, 0, 10);
        y.transfer(0, 0, 190, 0);
        y.transfer(0, 1, 190, 0);
        Check.due("equal quality", y.quality(1, 0), 80);
        Check.due("the smaller number", y.bestPass(0), 0);
    }

    /** The smallest capture that counts is 1. */
    private static void captureOne() {
        SoundArchive x = new SoundArchive();
        x.addCarrier(2, 48, 1, 60, 20);
        x.addMachine(2, 1, 1, 1);
        x.addRecording(0, 1, 0, 10);
        Check.due("planned", x.planned(0, 3), 1);
        Check.due("one pass", x.fewestPasses(0, 1), 1);
        Check.due("none for 2", x.fewestPasses(0, 2), NONE);
        Check.due("made", x.transfer(0, 0, 48, 0), 0);
        Check.due("captured", x.captured(0, 0), 1);
        Check.due("its tracks", x.pass(0, 5), 1);
        Check.due("best", x.bestPass(0), 0);
    }

    private static void twoTracks() {
        SoundArchive x = new SoundArchive();
        x.addCarrier(1, 95, 2, 60, 20);
        x.addMachine(1, 1, 2, 50);
        x.addRecording(0, 5, 0, 10);
        x.addRecording(0, 10, 0, 10);
        x.transfer(0, 0, 95, 1);
        Check.due("not covered", x.quality(0, 0), 0);
        Check.due("covered", x.quality(0, 1), 50);
        Check.due("the other side", x.transfer(0, 0, 95, 0), 1);
        Check.due("covered", x.quality(1, 0), 49);
        SoundArchive y = new SoundArchive();
        y.addCarrier(2, 48, 3, 60, 20);
        y.addMachine(2, 1, 3, 1);
        y.addRecording(0, 3, 0, 10);
        y.transfer(0, 0, 48, 0);
        Check.due("quality 1", y.quality(0, 0), 1);
        Check.due("worn out", y.planned(0, 0), NONE);
    }

    private static void hearing() {
        SoundArchive x = new SoundArchive();
        Check.due("no carrier", x.heard(0, 0, 1, 7, 9), BAD_INDEX);
        x.addCarrier(1, 95, 1, 3600, 1);
        Check.due("no machine", x.heard(0, 0, 1, 7, 0), BAD_INDEX);
        x.addMachine(1, 3, 1, 100);
        x.addMachine(0, 7, 1, 100);
        Check.due("track 2", x.heard(0, 0, 1, 7, 2), BAD_INDEX);
        Check.due("track -1", x.heard(0, 0, 95, 0, -1), BAD_INDEX);
        Check.due("carrier -1", x.heard(-1, 0, 95, 0, 0), BAD_INDEX);
        Check.due("machine -1", x.heard(0, -1, 95, 0, 0), BAD_INDEX);
        Check.due("machine 2", x.heard(0, 2, 95, 0, 0), BAD_INDEX);
        Check.due("speed 380", x.heard(0, 0, 380, 0, 0), BAD_VALUE);
        Check.due("side 2", x.heard(0, 0, 95, 2, 0), BAD_VALUE);
        Check.due("side -1", x.heard(0, 0, 95, -1, 0), BAD_VALUE);
        Check.due("side 2 of another kind", x.heard(0, 1, 33, 2, 0), BAD_VALUE);
        Check.due("a speed of the carrier's kind", x.heard(0, 1, 95, 0, 0), BAD_VALUE);
        Check.due("another kind", x.heard(0, 1, 33, 0, 0), NOT_POSSIBLE);
        Check.due("too few plays", x.heard(0, 0, 190, 0, 0), 50);
        Check.due("the reason stays", x.total(11), 0);
        Check.due("nothing is recorded", x.total(12), 3);
    }

    private static void durations() {
        SoundArchive x = new SoundArchive();
        Check.due("no carrier", x.duration(0, 5), BAD_INDEX);
        x.addCarrier(0, 45, 1, 100, 1);
        x.addCarrier(1, 380, 1, 3600, 1);
        x.addCarrier(2, 48, 1, 77, 1);
        Check.due("4500 / 33 rounded up", x.duration(0, 33), 137);
        Check.due("4500 / 45", x.duration(0, 45), 100);
        Check.due("4500 / 78 rounded up", x.duration(0, 78), 58);
        Check.due("four times as long", x.duration(1, 95), 14400);
        Check.due("a cassette", x.duration(2, 48), 77);
        Check.due("a speed of reels", x.duration(0, 95), BAD_VALUE);
        Check.due("a speed of discs", x.duration(2, 45), BAD_VALUE);
        Check.due("speed 0", x.duration(2, 0), BAD_VALUE);
        Check.due("speed -45", x.duration(0, -45), BAD_VALUE);
        Check.due("carrier 3", x.duration(3, 48), BAD_INDEX);
        Check.due("carrier -1", x.duration(-1, 48), BAD_INDEX);
    }

    private static void plan(String what, SoundArchive x, int recording, int... due) {
        for (int property = 0; property < 5; property++) {
            Check.due(what + ": planned " + property, x.planned(recording, property), due[property]);
        }
    }

    private static void plans() {
        SoundArchive x = new SoundArchive();
        Check.due("no recording", x.planned(0, 9), BAD_INDEX);
        x.addCarrier(1, 190, 1, 100, 2);
        x.addRecording(0, 2, 0, 10);
        Check.due("no machine", x.planned(0, 0), NONE);
        Check.due("property 5", x.planned(0, 5), BAD_VALUE);
        Check.due("property -1", x.planned(0, -1), BAD_VALUE);
        Check.due("recording -1", x.planned(-1, 0), BAD_INDEX);
        x.addMachine(0, 7, 1, 100);
        Check.due("another kind", x.planned(0, 0), NONE);
        x.addMachine(1, 5, 1, 60);
        plan("half the speed or twice it: the shorter one", x, 0, 1, 380, 1, 30, 50);
        x.addMachine(1, 7, 1, 59);
        plan("the better one", x, 0, 2, 190, 1, 59, 100);
        x.addMachine(1, 2, 1, 59);
        plan("the smaller number", x, 0, 2, 190, 1, 59, 100);
        x.transfer(0, 2, 190, 1);
        plan("worn", x, 0, 2, 190, 1, 58, 100);
        SoundArchive y = new SoundArchive();
        y.addCarrier(1, 190, 0, 100, 1);
        y.addMachine(1, 5, 0, 60);
        y.addRecording(0, 1, 0, 10);
        plan("one play alone, and either side", y, 0, 0, 95, 0, 30, 200);
        y.transfer(0, 0, 95, 0);
        Check.due("no play", y.planned(0, 3), NONE);
        Check.due("nothing is tried", y.total(11), 0);
    }

    private static void plansWithoutTime() {
        SoundArchive x = new SoundArchive();
        x.addCarrier(1, 380, 1, 3600, 9);
        x.addMachine(1, 1, 1, 100);
        x.addRecording(0, 1, 0, 10);
        x.transfer(0, 0, 95, 0);
        x.transfer(0, 0, 95, 0);
        Check.due("no time is left", x.machine(0, 4), 0);
        plan("time plays no part", x, 0, 0, 95, 0, 23, 14400);
    }

    private static void fewest() {
        SoundArchive x = new SoundArchive();
        Check.due("no carrier", x.fewestPasses(0, 0), BAD_INDEX);
        x.addCarrier(1, 95, 2, 100, 1);
        Check.due("quality 0", x.fewestPasses(0, 0), BAD_VALUE);
        Check.due("quality 101", x.fewestPasses(0, 101), BAD_VALUE);
        Check.due("carrier -1", x.fewestPasses(-1, 50), BAD_INDEX);
        Check.due("no recordings", x.fewestPasses(0, 50), 0);
        Check.due("quality 1", x.fewestPasses(0, 1), 0);
        Check.due("quality 100", x.fewestPasses(0, 100), 0);
        x.addRecording(0, 1, 0, 10);
        Check.due("no machine", x.fewestPasses(0, 50), NONE);
        x.addMachine(1, 2, 2, 100);
        Check.due("at half the quality", x.fewestPasses(0, 50), 1);
        Check.due("above it", x.fewestPasses(0, 51), NONE);
        x.addRecording(0, 5, 10, 20);
        Check.due("on one side", x.fewestPasses(0, 50), 1);
        x.addRecording(0, 2, 10, 20);
        Check.due("on two sides", x.fewestPasses(0, 50), 2);
        x.addRecording(0, 10, 20, 30);
        Check.due("still two", x.fewestPasses(0, 50), 2);
        x.addMachine(1, 1, 2, 100);
        Check.due("a better machine", x.fewestPasses(0, 100), 2);
        x.transfer(0, 1, 95, 0);
        Check.due("worn", x.fewestPasses(0, 100), NONE);
        Check.due("no plays are left, and no pass counts", x.fewestPasses(0, 99), 2);
        SoundArchive y = new SoundArchive();
        y.addCarrier(1, 95, 1, 100, 9);
        y.addMachine(1, 1, 1, 100);
        y.addRecording(0, 1, 0, 10);
        y.addRecording(0, 2, 0, 10);
        Check.due("a side each", y.fewestPasses(0, 50), 2);
        y.addMachine(1, 1, 2, 100);
        Check.due("one backwards", y.fewestPasses(0, 50), 1);
        Check.due("but not above 50", y.fewestPasses(0, 51), 2);
        for (int i = 1; i < 8; i++) {
            y.addRecording(0, 1, 10 * i, 10 * i + 5);
            y.addRecording(0, 2, 10 * i, 10 * i + 5);
        }
        Check.due("16 recordings", y.total(3), 16);
        Check.due("no more passes for them", y.fewestPasses(0, 51), 2);
    }

    public static void main(String[] args) {
        headsAndLayouts();
        backwards();
        captures();
        refusals();
        timeOfMachines();
        roomForPasses();
        lookingAtPasses();
        bestPasses();
        captureOne();
        twoTracks();
        hearing();
        durations();
        plans();
        plansWithoutTime();
        fewest();
        Check.finish();
    }
}
