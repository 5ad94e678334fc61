import java.util.ArrayList;
import java.util.List;

/** Promises 14 to 20: each boundary that a sentence names, alone on a fresh archive. */
public final class EdgesOfTextsTest extends Edges {
    private static final String[] FIELDS = {"t#m3v380s1;", "t7m#v380s1;", "t7m3v#s1;", "t7m3v380s#;", "a#;", "d#;"};
    private static final int[][] RANGES = {{0, 7}, {0, 3}, {1, 380}, {0, 1}, {0, 15}, {1, 99}};

    /** A reel and a cassette with machines; requests of which 0 can be answered as soon as pass 0 is made. */
    private static Build archive() {
        return after(empty(), x -> x.addCarrier(REEL, 190, HALF_TRACK, 600, 3), x -> x.addCarrier(CASSETTE, 48, HALF_TRACK, 60, 9),
                x -> x.addMachine(REEL, 7, HALF_TRACK, 90), x -> x.addMachine(CASSETTE, 1, HALF_TRACK, 80),
                x -> x.addRecording(0, 1, 0, 100), x -> x.request(0, 0, 0, 10, COPY, 50), x -> x.request(0, 0, 0, 10, COPY, 100));
    }

    private static Build with(String text) {
        return after(archive(), text(text));
    }

    private static String days(int count) {
        return "d1;".repeat(count);
    }

    // ---- promises 14 and 15

    private static void bytes() {
        range("14: byte", 32, 126, 3, BAD_VALUE, Edges::rich, (x, v) -> x.append(v));
        outside("14: byte", BAD_VALUE, Edges::rich, (x, v) -> x.append(v), 0, -32, 128, 255, 256 + 'd', 65536 + 'd', LOW, HIGH);
        for (int b = 32; b <= 126; b++) {
            int chosen = b;
            due("14: byte " + b, empty(), x -> x.append(chosen), 1);
            due("16: byte " + b + " alone", after(empty(), x -> x.append(chosen)), x -> x.faultPosition(),
                    b == 't' || b == 'a' || b == 'd' ? 1 : 0);
        }
        due("14: the 79th byte", after(empty(), times(78, x -> x.append(';'))), x -> x.append('x'), 79);
        due("14: the 80th byte", after(empty(), times(79, x -> x.append(';'))), x -> x.append('x'), 80);
        Build full = after(empty(), times(80, x -> x.append(';')));
        keeps("14: an 81st byte", full, x -> x.append('x'), FULL);
        keeps("14: a wrong byte before no room", full, x -> x.append(31), BAD_VALUE);
        keeps("14: a wrong byte before no room", full, x -> x.append(127), BAD_VALUE);
        due("14: room again when it is emptied", after(full, x -> x.clearText()), x -> x.append('x'), 1);
        due("14: a byte that is refused is not kept", after(with("d1"), x -> x.append(31), x -> x.append(';')), x -> x.run(), 1);
        due("14: nor is an 81st", after(empty(), text(days(25) + "d9;d9"), x -> x.append(';')), x -> x.faultPosition(), 80);
        keepsTheState("14: a byte", Edges::rich, x -> x.append(';'));
        keepsTheState("15: emptying", Edges::rich, x -> x.clearText());
        due("15: the length", Edges::rich, x -> x.clearText(), 2);
        due("15: the length of an empty one", empty(), x -> x.clearText(), 0);
        due("15: the length of a full one", full, x -> x.clearText(), 80);
        due("15: it is empty then", after(full, x -> x.clearText()), x -> x.total(13), 0);
        due("15: and stays so", after(full, x -> x.clearText()), x -> x.clearText(), 0);
        due("15: an empty text has no fault", after(full, x -> x.clearText()), x -> x.faultPosition(), NONE);
        keepsTheState("14: the first byte", empty(), x -> x.append(';'));
        keepsTheState("15: emptying an empty one", empty(), x -> x.clearText());
        for (String start : new String[] {"d", "d1", "t", "t0m0v190"}) {
            Build again = after(with("t0m0v190s0;d1;"), x -> x.clearText(), text(start));
            due("15: no byte of the old text is read, " + start, again, x -> x.faultPosition(), start.length());
            due("15: nor carried out, " + start, again, x -> x.run(), NOT_POSSIBLE);
        }
        Build shorter = after(archive(), text("d1;d2;"), x -> x.clearText(), text("d4;"), x -> x.run());
        due("15: the acts of the new text alone", shorter, x -> x.total(0), 4);
        due("15: nothing of it comes back", after(with("d1;d2;"), x -> x.clearText(), text("d3;")), x -> x.run(), 1);
    }

    /** The text becomes another one, but the state, the history and the slots do not. */
    private static void keepsTheState(String name, Build build, Call call) {
        for (int undone = 0; undone <= MOST_STATES; undone++) {
            Call undoing = times(undone, SoundArchive::undo);
            Check.holds(name + " keeps the state, " + undone + " undone",
                    state(after(build, undoing), true).equals(state(after(build, call, undoing), true)));
        }
        due(name + " is not recorded", after(build, call), x -> x.total(12), build.make().total(12));
        for (int slot = 0; slot <= 1; slot++) {
            int chosen = slot;
            Check.holds(name + " keeps slot " + slot, state(after(build, x -> x.restore(chosen)), true)
                    .equals(state(after(build, call, x -> x.restore(chosen)), true)));
        }
    }

    // ---- promise 16

    private static void fault(String text, int due) {
        Build build = after(empty(), text(text));
        due("16: fault of '" + text + "'", build, x -> x.faultPosition(), due);
        if (due != NONE) {
            due("17: '" + text + "' does not run", build, x -> x.run(), NOT_POSSIBLE);
        }
    }

    /** Each number of up to three digits in each place, with what may follow it. */
    private static void numbersOfTexts() {
        for (int field = 0; field < FIELDS.length; field++) {
            int first = FIELDS[field].indexOf('#');
            String head = FIELDS[field].substring(0, first);
            String tail = FIELDS[field].substring(first + 1);
            for (int value = 0; value <= 999; value++) {
                boolean isGood = value >= RANGES[field][0] && value <= RANGES[field][1];
                int end = first + String.valueOf(value).length();
                fault(head + value + tail, isGood ? NONE : first);
                fault(head + value, isGood ? end : first);
                fault(head + value + "x" + tail, isGood ? end : first);
            }
            numberWithMoreDigits(head, tail, first, RANGES[field]);
            fault(head, first);
            fault(head + tail, first);
            for (char b : new char[] {'/', ':', '-', '+', ' ', 'x', ';', 't', 'm', 'v', 's', 'a', 'd'}) {
                fault(head + b + "1" + tail, first);
            }
        }
    }

    private static void numberWithMoreDigits(String head, String tail, int first, int[] range) {
        for (int digit = 0; digit <= 9; digit++) {
            fault(head + "0" + digit + tail, range[0] == 0 ? first + 1 : first);
            for (int value : new int[] {100, 101, 379, 380, 381, 999}) {
                fault(head + value + digit + tail, value <= range[1] ? first + 3 : first);
            }
        }
        fault(head + "000" + tail, range[0] == 0 ? first + 1 : first);
        fault(head + "0", range[0] == 0 ? first + 1 : first);
        fault(head + "00", range[0] == 0 ? first + 1 : first);
    }

    /** Each byte in place of each byte, compared with the model, which reads the text in another way. */
    private static void everyByteInEveryPlace() {
        for (String text : new String[] {"t0m0v48s0;", "t7m3v380s1;d10;", "a0;a15;d99;", "d9;t1m1v5s1;a9;"}) {
            for (int place = 0; place <= text.length(); place++) {
                for (char b = 32; b <= 126; b++) {
                    String rest = text.substring(Math.min(text.length(), place + 1));
                    compared(text.substring(0, place) + b + rest);
                    compared(text.substring(0, place) + b + text.substring(place));
                }
                compared(text.substring(0, place));
                compared(text.substring(place));
            }
        }
    }

    private static void compared(String text) {
        Model model = new Model();
        model.text.append(text);
        fault(text, model.faultPosition());
    }

    private static void lengthsOfTexts() {
        fault("", NONE);
        for (int count = 1; count <= 26; count++) {
            fault(days(count), NONE);
            fault(days(count) + "d", 3 * count + 1);
            fault(days(count) + ";", 3 * count);
        }
        fault(days(25) + "d10;", NONE);
        fault(days(24) + "d10;d10;", NONE);
        fault(days(26) + "d9", 80);
        fault(days(26) + "d0", 79);
        fault(days(25) + "d100;", 76);
        fault(days(26) + "xx", 78);
        fault(days(26) + "dx", 79);
        fault("t0m0v48s0;".repeat(8), NONE);
        fault("t0m0v48s0;".repeat(7) + "t0m0v48s0:", 79);
        fault("t0m0v48s0;".repeat(7) + "t0m0v380s0", 80);
        fault(" ".repeat(80), 0);
        fault("d" + "9".repeat(79), 1);
        fault("t0m0v" + "3".repeat(75), 8);
        fault("d" + "0".repeat(79), 1);
        fault("a" + "0".repeat(79), 2);
        fault("a1" + "0".repeat(78), 1);
        keeps("16: whether there is such a carrier plays no part", with("t7m0v190s0;"), x -> x.faultPosition(), NONE);
        keeps("16: whether there is such a machine plays no part", with("t0m3v190s0;"), x -> x.faultPosition(), NONE);
        keeps("16: whether there is such a speed plays no part", with("t0m0v1s0;"), x -> x.faultPosition(), NONE);
        keeps("16: whether there is such a request plays no part", with("a15;"), x -> x.faultPosition(), NONE);
        keeps("16: the fault of a rich one", Edges::rich, x -> x.faultPosition(), 2);
    }

    // ---- promise 17

    private static void done(String text, int acts, int today, int passes, int reason) {
        Build build = with(text);
        recorded("17: " + text, build, x -> x.run(), acts);
        Build done = after(build, x -> x.run());
        due("17: today after " + text, done, x -> x.total(0), today);
        due("17: passes after " + text, done, x -> x.total(4), passes);
        due("17: the reason after " + text, done, x -> x.total(11), reason);
        due("17: the length of " + text, done, x -> x.total(13), text.length());
        due("17: the fault of " + text, done, x -> x.faultPosition(), NONE);
    }

    private static void runs() {
        done("", 0, 0, 0, 0);
        done("d1;", 1, 1, 0, 0);
        done("d99;", 1, 99, 0, 0);
        done("t0m0v190s0;", 1, 0, 1, 0);
        done("t0m0v190s0;a0;", 2, 0, 1, 0);
        done("a0;t0m0v190s0;", 0, 0, 0, 7);
        done("t0m0v190s0;a1;d1;", 1, 0, 1, 8);
        done("t0m0v190s0;a0;a0;d1;", 2, 0, 1, 6);
        done("t0m0v190s0;a1;", 1, 0, 1, 8);
        done("d1;a2;d1;", 1, 1, 0, 0);
        done("d1;a15;d1;", 1, 1, 0, 0);
        done("d1;t2m0v190s0;d1;", 1, 1, 0, 0);
        done("d1;t0m2v190s0;d1;", 1, 1, 0, 0);
        done("d1;t0m0v189s0;d1;", 1, 1, 0, 0);
        done("d1;t0m1v48s0;d1;", 1, 1, 0, 1);
        done("t0m0v380s0;t0m0v380s0;d1;", 1, 0, 1, 2);
        done("t0m0v95s0;t0m0v95s1;t0m0v95s0;t0m0v95s0;", 3, 0, 3, 2);
        done("d1;d2;d3;", 3, 6, 0, 0);
        done(days(26), 26, 26, 0, 0);
        done(days(25) + "d10;", 26, 35, 0, 0);
        done("t1m1v48s1;t0m0v380s1;", 2, 0, 2, 0);
        Build set = after(with("t1m1v48s1;t0m0v380s1;"), x -> x.run());
        properties("17: the first pass", set, (x, v) -> x.pass(0, v), 1, 1, 48, 1, 0, 2, 0);
        properties("17: the second pass", set, (x, v) -> x.pass(1, v), 0, 0, 380, 1, 0, 2, 0);
        due("17: an answer", after(with("t0m0v190s0;a0;"), x -> x.run()), x -> x.requested(0, 0), 1);
        due("17: days let requests expire", after(with("d31;"), x -> x.run()), x -> x.total(9), 2);
        due("17: twice", after(with("d9;"), x -> x.run(), x -> x.run()), x -> x.total(0), 18);
    }

    private static void runsWithAFault() {
        keeps("17: no act runs before a fault", with("d1;d1;d"), x -> x.run(), NOT_POSSIBLE);
        keeps("17: a fault in the first byte", with("x"), x -> x.run(), NOT_POSSIBLE);
        keeps("17: a semicolon is missing", with("d1;d1"), x -> x.run(), NOT_POSSIBLE);
        keeps("17: a fault after acts that fail", with("a0;;"), x -> x.run(), NOT_POSSIBLE);
        keeps("17: days out of range", with("d1;d100;"), x -> x.run(), NOT_POSSIBLE);
        keeps("17: a fault in the 80th byte", with(days(26) + "d0"), x -> x.run(), NOT_POSSIBLE);
        keeps("17: a rich one", Edges::rich, x -> x.run(), NOT_POSSIBLE);
        recorded("17: a rich one, mended", after(Edges::rich, x -> x.append(';')), x -> x.run(), 1);
    }

    private static void runsAndTheReason() {
        Build refused = after(Edges::rich, x -> x.clearText());
        due("17: days leave the reason", after(refused, text("d1;"), x -> x.run()), x -> x.total(11), 9);
        due("17: no acts leave the reason", after(refused, x -> x.run()), x -> x.total(11), 9);
        due("17: no such request leaves the reason", after(refused, text("a9;"), x -> x.run()), x -> x.total(11), 9);
        due("17: no such carrier leaves the reason", after(refused, text("t7m0v190s0;"), x -> x.run()), x -> x.total(11), 9);
        due("17: no such speed leaves the reason", after(refused, text("t0m0v1s0;"), x -> x.run()), x -> x.total(11), 9);
        due("17: a pass takes the reason away", after(refused, text("t0m0v190s0;"), x -> x.run()), x -> x.total(11), 0);
        due("17: an answer takes the reason away", after(refused, text("a1;"), x -> x.run()), x -> x.total(11), 0);
        due("17: a refusal sets another one", after(refused, text("a0;"), x -> x.run()), x -> x.total(11), 6);
        due("17: a pass and a refusal", after(refused, text("t0m0v190s0;a3;"), x -> x.run()), x -> x.total(11), 9);
        recorded("17: a run that is refused at once", after(refused, text("a0;d1;")), x -> x.run(), 0);
        recorded("17: a run without acts", refused, x -> x.run(), 0);
        Build late = after(archive(), toDay(9998), text("d1;d1;d1;"));
        recorded("17: to the last day", late, x -> x.run(), 1);
        due("17: no further", after(late, x -> x.run()), x -> x.total(0), 9999);
        due("17: nothing on the last day", after(late, x -> x.run()), x -> x.run(), 0);
        due("17: days that are too many", after(archive(), toDay(9950), text("d50;")), x -> x.run(), 0);
        due("17: days that are just right", after(archive(), toDay(9950), text("d49;")), x -> x.run(), 1);
    }

    // ---- promise 18

    private static void howManyStates() {
        for (int done = 0; done <= 7; done++) {
            Build build = after(empty(), times(done, x -> x.passDays(1)));
            int kept = Math.min(5, done);
            due("18: states after " + done + " days", build, x -> x.total(12), kept);
            for (int undone = 1; undone <= kept; undone++) {
                due("18: undo " + undone + " of " + done, build, times(undone, x -> x.undo()), kept - undone);
                due("18: today after undo " + undone + " of " + done, after(build, times(undone, x -> x.undo())),
                        x -> x.total(0), done - undone);
            }
            keeps("18: no more than " + kept, after(build, times(kept, x -> x.undo())), x -> x.undo(), NOT_POSSIBLE);
        }
    }

    /** Days and undoing in turns, compared with a list of days that forgets the oldest one. */
    private static void daysAndUndoing() {
        int[][] turns = {{7, 3, 4, 5}, {5, 5, 6, 6}, {1, 1, 1, 1}, {6, 1, 1, 5}, {9, 4, 2, 3, 5, 5}, {3, 2, 9, 5}, {5, 1, 1, 6}};
        for (int[] turn : turns) {
            SoundArchive x = new SoundArchive();
            List<Integer> history = new ArrayList<>();
            int today = 0;
            for (int i = 0; i < turn.length; i++) {
                for (int k = 0; k < turn[i]; k++) {
                    if (i % 2 == 0) {
                        history.add(today++);
                        if (history.size() > 5) {
                            history.remove(0);
                        }
                        x.passDays(1);
                    } else if (history.isEmpty()) {
                        Check.due("18: no state is left", x.undo(), NOT_POSSIBLE);
                    } else {
                        today = history.remove(history.size() - 1);
                        Check.due("18: undo", x.undo(), history.size());
                    }
                    Check.due("18: today", x.total(0), today);
                    Check.due("18: states", x.total(12), history.size());
                }
            }
        }
    }

    private static void whatUndoLeaves() {
        Build build = after(empty(), x -> x.passDays(5), text("d1;"), x -> x.save(0), x -> x.passDays(2), x -> x.undo());
        due("18: the text stays", build, x -> x.total(13), 3);
        due("18: and runs", build, x -> x.run(), 1);
        due("18: the slot stays", after(build, x -> x.undo()), x -> x.restore(0), 5);
        due("18: the other slot stays empty", build, x -> x.restore(1), NOT_POSSIBLE);
        due("18: undo is not recorded", build, x -> x.total(12), 1);
        due("18: undo of a restore", after(build, x -> x.undo(), x -> x.restore(0), x -> x.undo()), x -> x.total(0), 0);
        due("18: a text that was emptied stays so", after(empty(), text("d1;"), x -> x.passDays(1), x -> x.clearText(), x -> x.undo()),
                x -> x.total(13), 0);
        due("18: the reason comes back", after(Edges::rich, x -> x.transfer(0, 0, 190, 0), x -> x.undo()), x -> x.total(11), 9);
        Build old = after(Edges::rich, times(5, x -> x.passDays(1)));
        keeps("18: nothing to undo leaves the reason", after(old, times(5, x -> x.undo())), x -> x.undo(), NOT_POSSIBLE);
        due("18: which is there still", after(old, times(6, x -> x.undo())), x -> x.total(11), 9);
        due("18: a reason goes with what followed", after(Edges::rich, x -> x.undo()), x -> x.total(11), 0);
        for (int slot = 0; slot <= 1; slot++) {
            int chosen = slot;
            due("18: a slot saved after the state that comes back", after(empty(), x -> x.passDays(1), x -> x.save(chosen), x -> x.undo()),
                    x -> x.restore(chosen), 1);
        }
    }

    /** Calls that change nothing are recorded, too. */
    private static void recordedWithoutADifference() {
        recorded("10: the same day", Edges::rich, x -> x.setDue(1, 30), 30);
        recorded("20: the same state", after(Edges::rich, x -> x.save(0)), x -> x.restore(0), 1);
        recorded("20: the same state of a new object", after(empty(), x -> x.save(1)), x -> x.restore(1), 0);
        recorded("17: no acts", empty(), x -> x.run(), 0);
    }

    /** Each part of the state comes back though another value took its place in between. */
    private static void whatComesBack() {
        Build two = after(archive(), x -> x.addPart(0, 0, 9, 1, 50), x -> x.save(0), x -> x.undo(), x -> x.addPart(0, 3, 4, 5, 60));
        properties("24: the part that was added", two, (x, v) -> x.part(0, 0, v), 3, 4, 5, 60, 1);
        properties("20: the part that was saved", after(two, x -> x.restore(0)), (x, v) -> x.part(0, 0, v), 0, 9, 1, 50, 1);
        properties("18: the part that was undone", after(two, x -> x.restore(0), x -> x.undo()), (x, v) -> x.part(0, 0, v),
                3, 4, 5, 60, 1);
        Build paid = after(Edges::unlike, x -> x.save(0), x -> x.answer(1), x -> x.save(1));
        due("20: before the answer", after(paid, x -> x.restore(0)), x -> x.paid(2), 0);
        due("20: before the answer", after(paid, x -> x.restore(0)), x -> x.income(6), 0);
        due("20: after the answer", after(paid, x -> x.restore(0), x -> x.restore(1)), x -> x.paid(2), 20);
        due("20: after the answer", after(paid, x -> x.restore(0), x -> x.restore(1)), x -> x.income(6), 15);
    }

    // ---- promises 19 and 20

    private static void slots() {
        outside("19: slot", BAD_INDEX, Edges::rich, (x, v) -> x.save(v), -1, 2, 3, LOW, HIGH);
        outside("20: slot", BAD_INDEX, Edges::rich, (x, v) -> x.restore(v), -1, 2, 3, LOW, HIGH);
        outside("20: slot of a new object", BAD_INDEX, empty(), (x, v) -> x.restore(v), -1, 2);
        outside("20: an empty slot", NOT_POSSIBLE, empty(), (x, v) -> x.restore(v), 0, 1);
        for (int slot = 0; slot <= 1; slot++) {
            int chosen = slot;
            int other = 1 - slot;
            due("19: today", Edges::rich, x -> x.save(chosen), 1);
            due("19: day 0", empty(), x -> x.save(chosen), 0);
            due("19: day 9999", after(empty(), toDay(9999)), x -> x.save(chosen), 9999);
            due("20: day 9999", after(empty(), toDay(9999), x -> x.save(chosen), x -> x.undo()), x -> x.restore(chosen), 9999);
            keeps("20: the other slot is empty", after(empty(), x -> x.passDays(3), x -> x.save(chosen)), x -> x.restore(other), NOT_POSSIBLE);
            Build saved = after(Edges::rich, x -> x.save(chosen));
            Check.holds("19: saving keeps the state", state(Edges::rich, true).equals(state(saved, true)));
            due("19: saving is not recorded", saved, x -> x.total(12), 5);
            due("19: nor when there is room", after(empty(), x -> x.save(chosen)), x -> x.total(12), 0);
            due("19: saving keeps the text", saved, x -> x.total(13), 2);
            Check.holds("19: the history stays", state(after(Edges::rich, x -> x.undo()), true)
                    .equals(state(after(saved, x -> x.undo()), true)));
            Check.holds("19: the other slot stays", state(after(Edges::rich, x -> x.restore(other)), true)
                    .equals(state(after(saved, x -> x.restore(other)), true)));
            Check.holds("20: all that was saved comes back, again and again", state(Edges::rich, true)
                    .equals(state(after(saved, SLOT_CHANGES, x -> x.restore(chosen), SLOT_CHANGES, x -> x.restore(chosen)), true)));
            recorded("20: slot " + slot, Edges::rich, x -> x.restore(chosen), slot);
            due("19: in place of what it held", after(Edges::rich, x -> x.passDays(7), x -> x.save(chosen)), x -> x.restore(chosen), 8);
            due("20: the text stays", after(saved, x -> x.append('9'), x -> x.restore(chosen)), x -> x.total(13), 3);
            due("20: the history stays", after(empty(), x -> x.save(chosen), times(3, x -> x.passDays(1)), x -> x.restore(chosen)),
                    x -> x.total(12), 4);
        }
        due("20: the state of slot 0", after(Edges::rich, x -> x.restore(0)), x -> x.total(4), 0);
        due("20: the state of slot 1", after(Edges::rich, x -> x.restore(1)), x -> x.total(4), 1);
        due("20: its reason", after(Edges::rich, x -> x.restore(1)), x -> x.total(11), 0);
    }

    /** Something else in each part of the state. */
    private static final Call SLOT_CHANGES = x -> {
        x.addCarrier(REEL, 95, HALF_TRACK, 9, 9);
        x.addMachine(REEL, 1, HALF_TRACK, 9);
        x.addRecording(0, 1, 300, 400);
        x.addPart(0, 0, 1, 6, 99);
        x.transfer(0, 0, 190, 1);
        x.permit(1, 2, LISTEN, 3);
        x.revoke(0);
        x.request(1, 1, 0, 5, COPY, 3);
        x.setDue(1, 77);
        x.withdraw(3);
        x.answer(1);
        x.answer(0);
        return x.passDays(2);
    };

    public static void main(String[] args) {
        bytes();
        numbersOfTexts();
        everyByteInEveryPlace();
        lengthsOfTexts();
        runs();
        runsWithAFault();
        runsAndTheReason();
        howManyStates();
        daysAndUndoing();
        whatUndoLeaves();
        recordedWithoutADifference();
        whatComesBack();
        slots();
        Check.finish();
    }
}
