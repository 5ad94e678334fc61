/** Promises 14 to 17: the text, its faults and its acts. */
public final class TextTest {
    private static final int BAD_VALUE = SoundArchive.BAD_VALUE;
    private static final int NOT_POSSIBLE = SoundArchive.NOT_POSSIBLE;
    private static final int FULL = SoundArchive.FULL;
    private static final int NONE = SoundArchive.NONE;

    private static void write(SoundArchive x, String text) {
        for (int i = 0; i < text.length(); i++) {
            x.append(text.charAt(i));
        }
    }

    private static void bytes() {
        SoundArchive x = new SoundArchive();
        int[] wrong = {31, 127, 0, -1, 256 + 65, Integer.MIN_VALUE, Integer.MAX_VALUE};
        for (int b : wrong) {
            Check.due("append " + b, x.append(b), BAD_VALUE);
        }
        Check.due("length", x.total(13), 0);
        for (int i = 0; i < 80; i++) {
            Check.due("append", x.append(i % 2 == 0 ? 32 : 126), i + 1);
        }
        Check.due("an 81st", x.append(32), FULL);
        Check.due("a wrong 81st", x.append(31), BAD_VALUE);
        Check.due("length", x.total(13), 80);
        Check.due("not recorded", x.total(12), 0);
        Check.due("emptied", x.clearText(), 80);
        Check.due("emptied again", x.clearText(), 0);
        Check.due("append", x.append(100), 1);
    }

    private static void fault(String text, int due) {
        SoundArchive x = new SoundArchive();
        write(x, text);
        Check.due("fault of '" + text + "'", x.faultPosition(), due);
        Check.due("nothing else changes", x.total(13), text.length());
        if (due == NONE) {
            Check.holds("'" + text + "' runs", x.run() >= 0);
        } else {
            Check.due("'" + text + "' runs", x.run(), NOT_POSSIBLE);
            Check.due("records", x.total(12), 0);
        }
    }

    private static void textsWithoutFault() {
        String[] texts = {
            "", "d1;", "d99;", "d10;", "a0;", "a15;", "a9;", "t0m0v1s0;", "t7m3v380s1;", "t0m0v33s1;a0;d1;",
            "d1;d1;d1;d1;d1;d1;d1;d1;d1;d1;d1;d1;d1;d1;d1;d1;d1;d1;d1;d1;d1;d1;d1;d1;d1;d10;"};
        for (String text : texts) {
            fault(text, NONE);
        }
    }

    private static void textsWithAFault() {
        Object[][] texts = {
            {"x", 0}, {";", 0}, {" ", 0}, {"0", 0}, {"T", 0}, {"d", 1}, {"d;", 1}, {"dd", 1}, {"d1", 2}, {"d1d", 2},
            {"d 1;", 1}, {"d1 ;", 2}, {"d1; ", 3}, {"d1;;", 3}, {"d1;x", 3}, {"d-1;", 1},
            {"d0;", 1}, {"d0", 1}, {"d00", 1}, {"d01;", 1}, {"d100;", 1}, {"d100", 1}, {"d100x", 1}, {"d999", 1},
            {"d1000;", 1}, {"d990;", 1}, {"d99", 3}, {"d99x", 3}, {"d9:", 2}, {"d9/", 2}, {"d:", 1}, {"d/", 1},
            {"a", 1}, {"a16;", 1}, {"a150;", 1}, {"a00;", 2}, {"a01;", 2}, {"a0", 2}, {"a0x", 2}, {"a15", 3}, {"a1;a99", 4},
            {"t", 1}, {"tm", 1}, {"t8", 1}, {"t8m0v33s0;", 1}, {"t10m0", 1}, {"t00m0", 2}, {"t0", 2}, {"t0v", 2},
            {"t0;", 2}, {"t0m", 3}, {"t0m4", 3}, {"t0m4v", 3}, {"t0m3", 4}, {"t0m03", 4}, {"t0m0s", 4}, {"t0m0v", 5},
            {"t0m0v0s0;", 5}, {"t0m0v381s0;", 5}, {"t0m0v381", 5}, {"t0m0v380", 8}, {"t0m0v3800", 8}, {"t0m0v38", 7},
            {"t0m0v3801s0;", 8}, {"t0m0v9999s0;", 5}, {"t0m0v48", 7}, {"t0m0v48;", 7}, {"t0m0v48s", 8}, {"t0m0v48s2;", 8},
            {"t0m0v48s2", 8}, {"t0m0v48s1", 9}, {"t0m0v48s10;", 8}, {"t0m0v48s00;", 9}, {"t0m0v48s1m", 9},
            {"t0m0v48s1;t", 11}, {"a0;d1;t0m0v48s1;d0;", 17}, {"m0t0v48s0;", 0}, {"s0", 0}, {"v48", 0}};
        for (Object[] row : texts) {
            fault((String) row[0], (Integer) row[1]);
        }
    }

    private static void aTextThatIsFull() {
        StringBuilder text = new StringBuilder();
        for (int i = 0; i < 26; i++) {
            text.append("d1;");
        }
        fault(text + "d9", 80);
        fault(text + "d", 79);
        fault(text + "da", 79);
    }

    private static SoundArchive withRequest() {
        SoundArchive x = new SoundArchive();
        x.addCarrier(1, 190, 1, 600, 3);
        x.addMachine(1, 7, 1, 90);
        x.addRecording(0, 1, 0, 100);
        x.request(0, 0, 0, 10, 1, 50);
        return x;
    }

    private static int runOf(SoundArchive x, String text) {
        x.clearText();
        write(x, text);
        int done = x.run();
        Check.due("the text stays", x.total(13), text.length());
        return done;
    }

    private static void running() {
        SoundArchive x = withRequest();
        Check.due("records", x.total(12), 4);
        Check.due("no acts", runOf(x, ""), 0);
        Check.due("recorded even so", x.total(12), 5);
        Check.due("nothing has changed", x.undo(), 4);
        Check.due("all three", runOf(x, "t0m0v190s0;a0;d12;"), 3);
        Check.due("recorded once", x.total(12), 5);
        Check.due("pass", x.pass(0, 2), 190);
        Check.due("answered", x.requested(0, 0), 1);
        Check.due("today", x.total(0), 12);
        Check.due("undone", x.undo(), 4);
        Check.due("no pass", x.total(4), 0);
        Check.due("not answered", x.requested(0, 0), 0);
        Check.due("today", x.total(0), 0);
        Check.due("the text is no part of the state", x.total(13), 18);
        Check.due("it runs again", x.run(), 3);
    }

    private static void runningUntilAnError() {
        SoundArchive x = withRequest();
        Check.due("refused for a reason", runOf(x, "d1;a0;d1;"), 1);
        Check.due("the reason", x.total(11), 7);
        Check.due("no later act", x.total(0), 1);
        Check.due("no such carrier", runOf(x, "d1;t1m0v190s0;d1;"), 1);
        Check.due("the reason stays", x.total(11), 7);
        Check.due("no such machine", runOf(x, "t0m1v190s0;d1;"), 0);
        Check.due("no such speed", runOf(x, "t0m0v191s0;d1;"), 0);
        Check.due("no such request", runOf(x, "a1;d1;"), 0);
        Check.due("today", x.total(0), 2);
        Check.due("too few plays in the end", runOf(x, "t0m0v190s0;d1;t0m0v380s1;t0m0v190s0;d1;"), 3);
        Check.due("the reason", x.total(11), 2);
        Check.due("an act takes the reason away", runOf(x, "a0;"), 1);
        Check.due("no reason", x.total(11), 0);
        Check.due("a reason set by the first act", runOf(x, "a0;"), 0);
        Check.due("6", x.total(11), 6);
        Check.due("recorded with the reason ahead of it", x.undo(), 4);
        Check.due("0", x.total(11), 0);
    }

    private static void actsOfEachKind() {
        SoundArchive x = new SoundArchive();
        x.addMachine(0, 7, 1, 90);
        x.addMachine(1, 7, 1, 90);
        x.addCarrier(0, 45, 1, 600, 9);
        x.addCarrier(1, 190, 1, 600, 9);
        x.addRecording(1, 2, 0, 100);
        x.request(0, 0, 0, 10, 1, 100);
        x.request(0, 0, 0, 10, 1, 50);
        Check.due("five acts", runOf(x, "t1m1v190s1;a1;d10;t0m0v78s0;d2;"), 5);
        int[] due = {1, 1, 190, 1, 0, 2, 0};
        for (int property = 0; property < due.length; property++) {
            Check.due("the pass " + property, x.pass(0, property), due[property]);
        }
        Check.due("the other pass", x.pass(1, 4), 10);
        Check.due("its speed", x.pass(1, 2), 78);
        Check.due("answered", x.requested(1, 8), 0);
        Check.due("not the other one", x.requested(0, 0), 0);
        Check.due("today", x.total(0), 12);
    }

    private static void recordedOnce() {
        SoundArchive x = new SoundArchive();
        Check.due("three acts", runOf(x, "d1;d2;d3;"), 3);
        Check.due("one state", x.total(12), 1);
        Check.due("undone as one", x.undo(), 0);
        Check.due("today", x.total(0), 0);
        SoundArchive y = withRequest();
        for (int i = 0; i < 2; i++) {
            y.undo();
        }
        Check.due("two states", y.total(12), 2);
        Check.due("two passes", runOf(y, "t0m0v190s0;t0m0v190s0;"), 2);
        Check.due("one more", y.total(12), 3);
        y.undo();
        Check.due("no pass", y.total(4), 0);
        SoundArchive z = withRequest();
        z.transfer(0, 0, 190, 0);
        z.save(0);
        for (int i = 0; i < 5; i++) {
            z.undo();
        }
        z.restore(0);
        Check.due("one state", z.total(12), 1);
        Check.due("an answer", runOf(z, "a0;"), 1);
        Check.due("one more", z.total(12), 2);
    }

    private static void runningToTheLastDay() {
        SoundArchive x = new SoundArchive();
        for (int i = 0; i < 100; i++) {
            x.passDays(99);
        }
        Check.due("to day 9999", runOf(x, "d99;"), 1);
        Check.due("no later", runOf(x, "d1;"), 0);
        Check.due("recorded", x.total(12), 5);
        Check.due("today", x.total(0), 9999);
    }

    public static void main(String[] args) {
        bytes();
        textsWithoutFault();
        textsWithAFault();
        aTextThatIsFull();
        running();
        runningUntilAnError();
        actsOfEachKind();
        recordedOnce();
        runningToTheLastDay();
        Check.finish();
    }
}
