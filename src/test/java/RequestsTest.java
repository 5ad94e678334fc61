/** Promises 7 to 13 and 29 to 36: permissions, requests, their answers, fees, days and totals. */
public final class RequestsTest {
    private static final int BAD_INDEX = SoundArchive.BAD_INDEX;
    private static final int BAD_VALUE = SoundArchive.BAD_VALUE;
    private static final int NOT_POSSIBLE = SoundArchive.NOT_POSSIBLE;
    private static final int FULL = SoundArchive.FULL;
    private static final int REFUSED = SoundArchive.REFUSED;
    private static final int NONE = SoundArchive.NONE;
    private static final int LOW = Integer.MIN_VALUE;
    private static final int HIGH = Integer.MAX_VALUE;

    /** One reel with a recording of 100 seconds, which starts at second 50 of its side. */
    private static SoundArchive withRecording() {
        SoundArchive x = new SoundArchive();
        x.addCarrier(1, 190, 1, 600, 99);
        x.addMachine(1, 7, 1, 90);
        x.addRecording(0, 1, 50, 150);
        return x;
    }

    private static void permissions() {
        SoundArchive x = new SoundArchive();
        int[][] wrong = {
            {-1, 0, 0, 0}, {8, 0, 0, 0}, {0, -1, 0, 0}, {0, 8, 0, 0}, {0, 0, -1, 0}, {0, 0, 3, 0}, {0, 0, 0, -1},
            {0, 0, 0, 10000}, {LOW, 0, 0, 0}, {0, HIGH, 0, 0}};
        for (int[] w : wrong) {
            Check.due("wrong permit", x.permit(w[0], w[1], w[2], w[3]), BAD_VALUE);
        }
        Check.due("not recorded", x.total(12), 0);
        Check.due("none to revoke", x.revoke(0), BAD_INDEX);
        Check.due("first", x.permit(7, 0, 2, 9999), 0);
        Check.due("to oneself", x.permit(3, 3, 0, 0), 1);
        int[][] due = {{7, 0, 2, 9999, 0}, {3, 3, 0, 0, 0}};
        for (int permission = 0; permission < 2; permission++) {
            for (int property = 0; property < 5; property++) {
                Check.due("permission", x.permission(permission, property), due[permission][property]);
            }
        }
        Check.due("property 5", x.permission(0, 5), BAD_VALUE);
        Check.due("property -1", x.permission(0, -1), BAD_VALUE);
        Check.due("permission 2", x.permission(2, 5), BAD_INDEX);
        Check.due("permission -1", x.permission(-1, 0), BAD_INDEX);
        Check.due("revoke -1", x.revoke(-1), BAD_INDEX);
        Check.due("revoke 2", x.revoke(2), BAD_INDEX);
        Check.due("revoke 0", x.revoke(0), 1);
        Check.due("is revoked", x.permission(0, 4), 1);
        Check.due("again", x.revoke(0), NOT_POSSIBLE);
        Check.due("recorded", x.total(12), 3);
        Check.due("the last one", x.revoke(1), 0);
        for (int i = 2; i < 24; i++) {
            Check.due("permission " + i, x.permit(0, 1, 1, i), i);
        }
        Check.due("a 25th", x.permit(0, 1, 1, 1), FULL);
        Check.due("a wrong 25th", x.permit(0, 1, 3, 1), BAD_VALUE);
        Check.due("revoked ones count", x.total(5), 24);
        Check.due("those that are good", x.revoke(23), 21);
    }

    private static void makingRequests() {
        SoundArchive x = withRecording();
        int[][] wrong = {
            {-1, 0, 0, 9, 0, 5}, {8, 0, 0, 9, 0, 5}, {0, 0, -1, 9, 0, 5}, {0, 0, 100, 101, 0, 5}, {0, 0, 9, 9, 0, 5},
            {0, 0, 0, 101, 0, 5}, {0, 0, 0, 9, -1, 5}, {0, 0, 0, 9, 3, 5}, {0, 0, 0, 9, 0, 0}, {0, 0, 0, 9, 0, 101},
            {0, 0, LOW, 9, 0, 5}, {0, 0, 0, LOW, 0, 5}, {0, 0, 0, 9, 0, LOW}, {0, 0, 0, HIGH, 0, 5}};
        for (int[] w : wrong) {
            Check.due("wrong request", x.request(w[0], w[1], w[2], w[3], w[4], w[5]), BAD_VALUE);
        }
        Check.due("recording 1", x.request(0, 1, 0, 9, 0, 0), BAD_INDEX);
        Check.due("recording -1", x.request(9, -1, 0, 9, 0, 5), BAD_INDEX);
        Check.due("not recorded", x.total(12), 3);
        x.passDays(4);
        Check.due("first", x.request(7, 0, 99, 100, 2, 100), 0);
        Check.due("second", x.request(0, 0, 0, 100, 0, 1), 1);
        int[][] due = {{0, 7, 0, 99, 100, 2, 100, 34, NONE, 0}, {0, 0, 0, 0, 100, 0, 1, 34, NONE, 0}};
        for (int request = 0; request < 2; request++) {
            for (int property = 0; property < 10; property++) {
                Check.due("requested " + property, x.requested(request, property), due[request][property]);
            }
        }
        Check.due("property 10", x.requested(0, 10), BAD_VALUE);
        Check.due("property -1", x.requested(0, -1), BAD_VALUE);
        Check.due("request 2", x.requested(2, 10), BAD_INDEX);
        Check.due("request -1", x.requested(-1, 0), BAD_INDEX);
        for (int i = 2; i < 16; i++) {
            Check.due("request " + i, x.request(0, 0, 0, 1, 0, 1), i);
        }
        Check.due("a 17th", x.request(0, 0, 0, 1, 0, 1), FULL);
        Check.due("a wrong 17th", x.request(0, 0, 0, 1, 0, 101), BAD_VALUE);
        Check.due("withdrawn", x.withdraw(3), 15);
        Check.due("withdrawn ones count", x.request(0, 0, 0, 1, 0, 1), FULL);
        Check.due("requests", x.total(6), 16);
    }

    private static void dueDays() {
        SoundArchive x = withRecording();
        x.request(0, 0, 0, 1, 0, 1);
        x.request(0, 0, 0, 1, 0, 1);
        x.passDays(10);
        Check.due("request 2", x.setDue(2, -1), BAD_INDEX);
        Check.due("request -1", x.setDue(-1, 20), BAD_INDEX);
        Check.due("yesterday", x.setDue(0, 9), BAD_VALUE);
        Check.due("day 10000", x.setDue(0, 10000), BAD_VALUE);
        Check.due("today", x.setDue(0, 10), 30);
        Check.due("the last day", x.setDue(0, 9999), 10);
        Check.due("today again", x.setDue(0, 10), 9999);
        Check.due("due", x.requested(0, 7), 10);
        Check.due("withdraw 2", x.withdraw(2), BAD_INDEX);
        Check.due("withdraw -1", x.withdraw(-1), BAD_INDEX);
        Check.due("withdraw 1", x.withdraw(1), 1);
        Check.due("its state", x.requested(1, 0), 3);
        Check.due("withdraw again", x.withdraw(1), NOT_POSSIBLE);
        Check.due("not open", x.setDue(1, 20), NOT_POSSIBLE);
        Check.due("not open, a wrong day", x.setDue(1, 9), BAD_VALUE);
        Check.due("it expires", x.passDays(1), 1);
        Check.due("its state", x.requested(0, 0), 2);
        Check.due("expired", x.setDue(0, 20), NOT_POSSIBLE);
        Check.due("expired", x.withdraw(0), NOT_POSSIBLE);
        Check.due("expired ones", x.total(9), 1);
        Check.due("withdrawn ones", x.total(10), 1);
        Check.due("open ones", x.total(7), 0);
        Check.due("of withdrawing", x.requested(1, 7), 30);
    }

    private static void days() {
        SoundArchive x = withRecording();
        Check.due("0 days", x.passDays(0), BAD_VALUE);
        Check.due("100 days", x.passDays(100), BAD_VALUE);
        Check.due("-1 days", x.passDays(-1), BAD_VALUE);
        Check.due("too many days", x.passDays(HIGH), BAD_VALUE);
        for (int i = 0; i < 4; i++) {
            x.request(i, 0, 0, 1, 0, 1);
        }
        x.setDue(1, 29);
        x.setDue(2, 31);
        x.transfer(0, 0, 190, 0);
        Check.due("time is used", x.machine(0, 4), 28200);
        Check.due("to the day of one", x.passDays(29), 0);
        Check.due("all time is back", x.machine(0, 4), 28800);
        Check.due("beyond one", x.passDays(1), 1);
        Check.due("it is request 1", x.requested(1, 0), 2);
        Check.due("beyond two more", x.passDays(1), 2);
        Check.due("request 2 is left", x.next(0), 2);
        Check.due("an expired one is past", x.passDays(1), 1);
        Check.due("no more", x.passDays(99), 0);
        for (int i = 0; i < 99; i++) {
            Check.due("99 days", x.passDays(99), 0);
        }
        Check.due("today", x.total(0), 9932);
        Check.due("to day 10000", x.passDays(68), NOT_POSSIBLE);
        Check.due("not recorded", x.total(12), 5);
        Check.due("due at the end", x.request(0, 0, 0, 1, 0, 1), 4);
        Check.due("30 days later", x.requested(4, 7), 9962);
        Check.due("to day 9980", x.passDays(48), 1);
        x.request(0, 0, 0, 1, 0, 1);
        Check.due("at most 9999", x.requested(5, 7), 9999);
        Check.due("to day 9999", x.passDays(19), 0);
        Check.due("one more", x.passDays(1), NOT_POSSIBLE);
        Check.due("wrong days", x.passDays(0), BAD_VALUE);
        Check.due("today", x.setDue(5, 9999), 9999);
        Check.due("a part that is free at last", x.addPart(0, 0, 1, 0, 9999), 0);
        Check.due("it is not protected", x.part(0, 0, 4), 0);
    }

    /** Parts: 0 seconds 0 to 50 of person 1, 1 seconds 40 to 100 of person 2, 2 second 99 of person 1; free on day 20. */
    private static SoundArchive withParts() {
        SoundArchive x = withRecording();
        x.addPart(0, 0, 50, 1, 20);
        x.addPart(0, 40, 100, 2, 20);
        x.addPart(0, 99, 100, 1, 20);
        return x;
    }

    private static void rights() {
        SoundArchive x = withParts();
        Check.due("all three", x.lacking(0, 0, 0, 100, 0), 7);
        Check.due("up to second 39", x.lacking(0, 0, 0, 40, 0), 1);
        Check.due("up to second 40", x.lacking(0, 0, 0, 41, 0), 3);
        Check.due("from second 49", x.lacking(0, 0, 49, 60, 0), 3);
        Check.due("from second 50", x.lacking(0, 0, 50, 99, 0), 2);
        Check.due("the own ones are free", x.lacking(1, 0, 0, 100, 0), 2);
        Check.due("the own one is free", x.lacking(2, 0, 0, 100, 2), 5);
        x.permit(1, 0, 1, 10);
        Check.due("listening", x.lacking(0, 0, 0, 100, 0), 2);
        Check.due("copying", x.lacking(0, 0, 0, 100, 1), 2);
        Check.due("broadcasting", x.lacking(0, 0, 0, 100, 2), 7);
        Check.due("another user", x.lacking(3, 0, 0, 100, 1), 7);
        Check.due("its holder as a user", x.lacking(2, 0, 0, 100, 1), 5);
        x.passDays(10);
        Check.due("the last day", x.lacking(0, 0, 0, 100, 1), 2);
        x.passDays(1);
        Check.due("the day after it", x.lacking(0, 0, 0, 100, 1), 7);
        x.permit(1, 0, 0, 11);
        x.permit(1, 0, 2, 11);
        Check.due("one of two is good enough", x.lacking(0, 0, 0, 100, 2), 2);
        x.revoke(2);
        Check.due("revoked", x.lacking(0, 0, 0, 100, 2), 7);
        Check.due("the other one", x.lacking(0, 0, 0, 100, 0), 2);
        x.passDays(8);
        Check.due("day 19", x.lacking(0, 0, 0, 100, 2), 7);
        x.passDays(1);
        Check.due("day 20", x.lacking(0, 0, 0, 100, 2), 0);
    }

    private static void fees() {
        SoundArchive x = withParts();
        Check.due("listening", x.fee(0, 0, 0, 100, 0), 0);
        Check.due("copying", x.fee(0, 0, 0, 100, 1), 111);
        Check.due("broadcasting", x.fee(0, 0, 0, 100, 2), 333);
        Check.due("shared by both", x.fee(0, 0, 45, 48, 1), 6);
        Check.due("at an edge", x.fee(0, 0, 49, 51, 1), 3);
        Check.due("of the second part alone", x.fee(0, 0, 50, 99, 1), 49);
        Check.due("of another holder", x.fee(1, 0, 0, 100, 1), 60);
        Check.due("of another holder", x.fee(2, 0, 0, 100, 2), 153);
        x.permit(1, 0, 2, 99);
        Check.due("a permission costs still", x.fee(0, 0, 0, 100, 1), 111);
        x.passDays(19);
        Check.due("day 19", x.fee(0, 0, 0, 100, 1), 111);
        x.passDays(1);
        Check.due("day 20", x.fee(0, 0, 0, 100, 1), 0);
    }

    private static void wrongExcerpts() {
        SoundArchive x = withParts();
        int[][] wrong = {
            {-1, 0, 0, 9, 0}, {8, 0, 0, 9, 0}, {0, 0, -1, 9, 0}, {0, 0, 100, 101, 0}, {0, 0, 9, 9, 0}, {0, 0, 0, 101, 0},
            {0, 0, 0, 9, -1}, {0, 0, 0, 9, 3}, {0, 0, LOW, HIGH, 0}, {0, 0, HIGH, LOW, 0}};
        for (int[] w : wrong) {
            Check.due("lacking", x.lacking(w[0], w[1], w[2], w[3], w[4]), BAD_VALUE);
            Check.due("fee", x.fee(w[0], w[1], w[2], w[3], w[4]), BAD_VALUE);
        }
        Check.due("lacking 1", x.lacking(9, 1, 0, 9, 0), BAD_INDEX);
        Check.due("lacking -1", x.lacking(0, -1, 0, 9, 0), BAD_INDEX);
        Check.due("fee 1", x.fee(9, 1, 0, 9, 0), BAD_INDEX);
        Check.due("fee -1", x.fee(0, -1, 0, 9, 0), BAD_INDEX);
    }

    private static void refused(SoundArchive x, int request, int reason) {
        Check.due("answer, to be refused for " + reason, x.answer(request), REFUSED);
        Check.due("the reason", x.total(11), reason);
    }

    private static void answers() {
        SoundArchive x = withParts();
        Check.due("no request", x.answer(0), BAD_INDEX);
        x.request(0, 0, 45, 48, 2, 90);
        x.request(1, 0, 0, 100, 1, 90);
        Check.due("request -1", x.answer(-1), BAD_INDEX);
        Check.due("request 2", x.answer(2), BAD_INDEX);
        Check.due("no reason yet", x.total(11), 0);
        refused(x, 0, 7);
        x.transfer(0, 0, 95, 0);
        Check.due("the pass takes the reason away", x.total(11), 0);
        refused(x, 0, 8);
        x.transfer(0, 0, 190, 0);
        refused(x, 0, 8);
        Check.due("89 is below 90", x.quality(1, 0), 89);
        x.withdraw(0);
        x.request(0, 0, 45, 48, 2, 89);
        refused(x, 0, 6);
        refused(x, 2, 9);
        x.permit(1, 0, 2, 5);
        refused(x, 2, 9);
        x.permit(2, 0, 2, 5);
        Check.due("a refused answer pays nothing", x.paid(0), 0);
        Check.due("answered", x.answer(2), 1);
        Check.due("no reason", x.total(11), 0);
        Check.due("its state", x.requested(2, 0), 1);
        Check.due("its pass", x.requested(2, 8), 1);
        Check.due("its fee", x.requested(2, 9), 18);
        Check.due("paid", x.paid(0), 18);
        Check.due("income of 1", x.income(1), 9);
        Check.due("income of 2", x.income(2), 9);
        Check.due("income of the user", x.income(0), 0);
        Check.due("open ones", x.total(7), 1);
        Check.due("answered ones", x.total(8), 1);
        refused(x, 2, 6);
        Check.due("errors leave the reason", x.answer(3), BAD_INDEX);
        Check.due("the reason", x.total(11), 6);
        Check.due("nothing is paid again", x.paid(0), 18);
    }

    private static void sumsOfMoney() {
        SoundArchive x = withParts();
        x.transfer(0, 0, 190, 0);
        x.permit(1, 0, 2, 99);
        x.permit(2, 0, 2, 99);
        x.permit(2, 1, 2, 99);
        x.request(0, 0, 0, 100, 1, 1);
        x.request(1, 0, 0, 100, 2, 1);
        x.request(0, 0, 98, 100, 0, 1);
        x.request(0, 0, 98, 100, 2, 1);
        for (int i = 0; i < 4; i++) {
            Check.due("answer " + i, x.answer(i), 0);
        }
        int[] fees = {111, 180, 0, 9};
        for (int i = 0; i < 4; i++) {
            Check.due("fee " + i, x.requested(i, 9), fees[i]);
        }
        Check.due("paid by 0", x.paid(0), 120);
        Check.due("paid by 1", x.paid(1), 180);
        Check.due("paid by 2", x.paid(2), 0);
        Check.due("income of 1", x.income(1), 51 + 3);
        Check.due("income of 2", x.income(2), 60 + 180 + 6);
        Check.due("income of 7", x.income(7), 0);
        Check.due("income of 8", x.income(8), BAD_VALUE);
        Check.due("income of -1", x.income(-1), BAD_VALUE);
        Check.due("paid by 8", x.paid(8), BAD_VALUE);
        Check.due("paid by -1", x.paid(-1), BAD_VALUE);
        x.request(0, 0, 0, 100, 2, 1);
        x.passDays(20);
        Check.due("free by now", x.answer(4), 0);
        Check.due("for nothing", x.requested(4, 9), 0);
        Check.due("paid by 0", x.paid(0), 120);
    }

    private static void expiredRequests() {
        SoundArchive x = withRecording();
        x.transfer(0, 0, 190, 0);
        x.request(0, 0, 0, 100, 1, 1);
        x.passDays(31);
        refused(x, 0, 6);
        Check.due("its pass", x.requested(0, 8), NONE);
    }

    private static void anotherRecording() {
        SoundArchive x = withParts();
        x.addRecording(0, 2, 0, 600);
        x.addPart(1, 0, 600, 5, 99);
        x.transfer(0, 0, 190, 1);
        x.permit(5, 0, 1, 0);
        Check.due("of the length of this one", x.request(0, 1, 599, 600, 1, 1), 0);
        Check.due("its recording", x.requested(0, 2), 1);
        Check.due("answered", x.answer(0), 0);
        Check.due("income of its holder", x.income(5), 1);
        Check.due("fee of all of it", x.fee(0, 1, 0, 600, 2), 1800);
        Check.due("lacking", x.lacking(0, 1, 0, 600, 2), 1);
        Check.due("not lacking", x.lacking(0, 1, 0, 600, 1), 0);
    }

    private static void order() {
        SoundArchive x = withRecording();
        int[][] requests = {{0, 50, 40}, {2, 50, 40}, {2, 60, 40}, {2, 60, 40}, {0, 1, 39}, {1, 99, 40}, {2, 99, 41}};
        for (int i = 0; i < requests.length; i++) {
            x.request(i, 0, 0, 9, requests[i][0], requests[i][1]);
            x.setDue(i, requests[i][2]);
        }
        int[] due = {4, 2, 3, 1, 5, 0, 6};
        for (int place = 0; place < due.length; place++) {
            Check.due("place " + place, x.next(place), due[place]);
        }
        Check.due("place 7", x.next(7), NONE);
        Check.due("the highest place", x.next(HIGH), NONE);
        Check.due("place -1", x.next(-1), BAD_VALUE);
        Check.due("the lowest place", x.next(LOW), BAD_VALUE);
        x.withdraw(2);
        Check.due("without one", x.next(1), 3);
        Check.due("place 6", x.next(6), NONE);
        x.passDays(40);
        Check.due("one expired", x.next(0), 3);
        x.passDays(1);
        Check.due("one is left", x.next(0), 6);
        Check.due("place 1", x.next(1), NONE);
    }

    private static void totals() {
        SoundArchive x = withParts();
        x.addCarrier(0, 33, 1, 10, 5);
        x.addCarrier(0, 33, 1, 10, 5);
        x.addMachine(0, 1, 1, 5);
        x.passDays(7);
        for (int i = 0; i < 7; i++) {
            x.request(3, 0, 0, 9, 1, 2);
        }
        x.transfer(0, 0, 190, 0);
        x.permit(1, 3, 1, 40);
        x.answer(0);
        x.answer(1);
        x.withdraw(2);
        x.setDue(3, 8);
        x.setDue(4, 8);
        x.setDue(5, 8);
        x.append(32);
        x.append(126);
        x.passDays(2);
        Check.due("refused", x.answer(2), REFUSED);
        int[] due = {9, 3, 2, 1, 1, 1, 7, 1, 2, 3, 1, 6, 5, 2};
        for (int property = 0; property < due.length; property++) {
            Check.due("total " + property, x.total(property), due[property]);
        }
        Check.due("total 14", x.total(14), BAD_VALUE);
        Check.due("total -1", x.total(-1), BAD_VALUE);
        Check.due("total far below", x.total(LOW), BAD_VALUE);
        Check.due("total far above", x.total(HIGH), BAD_VALUE);
    }

    public static void main(String[] args) {
        permissions();
        makingRequests();
        dueDays();
        days();
        rights();
        fees();
        wrongExcerpts();
        answers();
        sumsOfMoney();
        expiredRequests();
        anotherRecording();
        order();
        totals();
        Check.finish();
    }
}
