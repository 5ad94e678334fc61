import java.util.ArrayList;
import java.util.List;

/** Promises 18 to 20: undo, save and restore; and that each recorded call can be undone. */
public final class HistoryTest {
    private static final int BAD_INDEX = SoundArchive.BAD_INDEX;
    private static final int BAD_VALUE = SoundArchive.BAD_VALUE;
    private static final int NOT_POSSIBLE = SoundArchive.NOT_POSSIBLE;
    private static final int REFUSED = SoundArchive.REFUSED;

    private static SoundArchive small() {
        SoundArchive x = new SoundArchive();
        x.addCarrier(1, 190, 1, 600, 9);
        x.addMachine(1, 7, 1, 90);
        x.addRecording(0, 1, 0, 100);
        x.addPart(0, 0, 50, 1, 20);
        x.permit(1, 2, 2, 30);
        x.request(2, 0, 0, 10, 1, 50);
        x.transfer(0, 0, 190, 0);
        return x;
    }

    /** Some of everything that the state of a small archive holds. */
    private static List<Integer> look(SoundArchive x) {
        List<Integer> all = new ArrayList<>();
        for (int k = 0; k <= 11; k++) {
            all.add(x.total(k));
            all.add(x.carrier(0, k));
            all.add(x.carrier(1, k));
            all.add(x.machine(0, k));
            all.add(x.recording(0, k));
            all.add(x.part(0, 0, k));
            all.add(x.part(0, 1, k));
            all.add(x.pass(1, k));
            all.add(x.captured(1, k));
            all.add(x.permission(0, k));
            all.add(x.permission(1, k));
            all.add(x.requested(0, k));
            all.add(x.requested(1, k));
            all.add(x.income(k));
            all.add(x.paid(k));
            all.add(x.planned(0, k));
        }
        return all;
    }

    private static int act(SoundArchive x, int number) {
        switch (number) {
            case 0: return x.addCarrier(2, 48, 1, 60, 9);
            case 1: return x.addMachine(2, 1, 1, 9);
            case 2: return x.addRecording(0, 2, 0, 9);
            case 3: return x.addPart(0, 60, 70, 3, 3);
            case 4: return x.transfer(0, 0, 380, 1);
            case 5: return x.permit(3, 4, 1, 5);
            case 6: return x.revoke(0);
            case 7: return x.request(3, 0, 0, 9, 2, 5);
            case 8: return x.setDue(0, 30);
            case 9: return x.withdraw(0);
            case 10: return x.answer(0);
            case 11: return x.passDays(40);
            case 12: return x.run();
            default: return x.restore(1);
        }
    }

    private static void everyActCanBeUndone() {
        for (int number = 0; number <= 13; number++) {
            SoundArchive x = small();
            x.save(1);
            x.passDays(1);
            x.undo();
            List<Integer> before = look(x);
            Check.due("act " + number + ": records ahead of it", x.total(12), 4);
            Check.holds("act " + number, act(x, number) >= 0);
            Check.due("act " + number + " is recorded", x.total(12), 5);
            Check.due("act " + number + " is undone", x.undo(), 4);
            Check.holds("act " + number + ": all is as before", before.equals(look(x)));
        }
    }

    private static void errorsChangeNothing() {
        SoundArchive x = small();
        x.passDays(1);
        x.undo();
        List<Integer> before = look(x);
        Check.due("carrier", x.addCarrier(2, 48, 0, 60, 9), BAD_VALUE);
        Check.due("machine", x.addMachine(2, 1, 0, 9), BAD_VALUE);
        Check.due("recording", x.addRecording(0, 1, 99, 200), NOT_POSSIBLE);
        Check.due("part", x.addPart(0, 99, 101, 0, 0), BAD_VALUE);
        Check.due("transfer", x.transfer(0, 0, 48, 0), BAD_VALUE);
        Check.due("permit", x.permit(0, 0, 0, 10000), BAD_VALUE);
        Check.due("revoke", x.revoke(1), BAD_INDEX);
        Check.due("request", x.request(0, 0, 0, 0, 0, 1), BAD_VALUE);
        Check.due("due", x.setDue(0, -1), BAD_VALUE);
        Check.due("withdraw", x.withdraw(1), BAD_INDEX);
        Check.due("answer", x.answer(1), BAD_INDEX);
        Check.due("days", x.passDays(0), BAD_VALUE);
        x.append('!');
        Check.due("run", x.run(), NOT_POSSIBLE);
        Check.due("restore", x.restore(0), NOT_POSSIBLE);
        Check.holds("all is as before", before.equals(look(x)));
        Check.due("nothing is recorded", x.total(12), 4);
    }

    private static void fiveStates() {
        SoundArchive x = new SoundArchive();
        for (int i = 1; i <= 8; i++) {
            x.passDays(1);
            Check.due("records", x.total(12), Math.min(5, i));
        }
        for (int i = 1; i <= 5; i++) {
            Check.due("undo " + i, x.undo(), 5 - i);
            Check.due("today", x.total(0), 8 - i);
        }
        Check.due("no more", x.undo(), NOT_POSSIBLE);
        Check.due("today", x.total(0), 3);
        x.passDays(7);
        Check.due("recorded again", x.undo(), 0);
        Check.due("today", x.total(0), 3);
    }

    private static void undoAndWhatIsNoState() {
        SoundArchive x = new SoundArchive();
        x.append('d');
        x.passDays(5);
        x.append('1');
        x.save(0);
        Check.due("saving is not recorded", x.total(12), 1);
        Check.due("undo", x.undo(), 0);
        Check.due("the text stays", x.total(13), 2);
        Check.due("the slot stays", x.restore(0), 5);
        Check.due("restoring is recorded", x.total(12), 1);
        Check.due("the text stays", x.total(13), 2);
        Check.due("undo", x.undo(), 0);
        Check.due("today", x.total(0), 0);
    }

    private static void undoAndTheReason() {
        SoundArchive x = small();
        x.request(3, 0, 0, 10, 1, 50);
        Check.due("refused", x.answer(1), REFUSED);
        Check.due("9", x.total(11), 9);
        x.passDays(1);
        Check.due("days leave it", x.total(11), 9);
        x.undo();
        Check.due("it came back", x.total(11), 9);
        x.undo();
        Check.due("ahead of the request", x.total(11), 0);
    }

    private static void slots() {
        SoundArchive x = new SoundArchive();
        int[] wrong = {-1, 2, Integer.MIN_VALUE, Integer.MAX_VALUE};
        for (int slot : wrong) {
            Check.due("save " + slot, x.save(slot), BAD_INDEX);
            Check.due("restore " + slot, x.restore(slot), BAD_INDEX);
        }
        Check.due("empty", x.restore(1), NOT_POSSIBLE);
        x.passDays(3);
        Check.due("saved", x.save(1), 3);
        Check.due("0 is empty still", x.restore(0), NOT_POSSIBLE);
        x.passDays(4);
        x.addCarrier(2, 48, 1, 60, 9);
        Check.due("saved", x.save(0), 7);
        x.passDays(1);
        Check.due("back to 3", x.restore(1), 3);
        Check.due("no carrier", x.total(1), 0);
        x.passDays(2);
        Check.due("the slot is a copy", x.restore(1), 3);
        Check.due("on to 7", x.restore(0), 7);
        Check.due("its carrier", x.total(1), 1);
        x.addCarrier(2, 48, 1, 60, 9);
        Check.due("the other slot is a copy", x.restore(0), 7);
        Check.due("its carrier", x.total(1), 1);
        x.undo();
        Check.due("undone", x.total(1), 2);
        Check.due("in place of the old one", x.save(1), 7);
        x.passDays(50);
        Check.due("the new one", x.restore(1), 7);
        Check.due("its carriers", x.total(1), 2);
        Check.due("records", x.total(12), 5);
    }

    private static void restoringTheReason() {
        SoundArchive x = small();
        x.save(0);
        x.request(3, 0, 0, 10, 1, 50);
        x.answer(1);
        x.save(1);
        x.restore(0);
        Check.due("the reason then", x.total(11), 0);
        x.restore(1);
        Check.due("the reason then", x.total(11), 9);
    }

    private static void objectsAreApart() {
        SoundArchive one = small();
        SoundArchive other = new SoundArchive();
        other.passDays(9);
        other.save(0);
        one.undo();
        Check.due("restore of one", one.restore(0), NOT_POSSIBLE);
        Check.due("other", other.total(1), 0);
        Check.due("today of one", one.total(0), 0);
        Check.due("records of other", other.total(12), 1);
    }

    public static void main(String[] args) {
        everyActCanBeUndone();
        errorsChangeNothing();
        fiveStates();
        undoAndWhatIsNoState();
        undoAndTheReason();
        slots();
        restoringTheReason();
        objectsAreApart();
        Check.finish();
    }
}
