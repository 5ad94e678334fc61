/** Promises 7 to 13 and 29 to 36: each boundary that a sentence names, alone on a fresh archive. */
public final class EdgesOfRightsTest extends Edges {
    /** A recording of 100 seconds, of which no pass was made yet. */
    private static Build recording() {
        return after(empty(), x -> x.addCarrier(REEL, 190, HALF_TRACK, 600, 99),
                x -> x.addMachine(REEL, 7, HALF_TRACK, 90), x -> x.addRecording(0, 1, 50, 150));
    }

    /** The same, covered with a quality of 90. */
    private static Build covered() {
        return after(recording(), x -> x.transfer(0, 0, 190, 0));
    }

    private static Call ask(int use, int quality) {
        return x -> x.request(0, 0, 0, 10, use, quality);
    }

    private static Build requests(int count) {
        return after(covered(), times(count, ask(LISTEN, 1)));
    }

    private static Build permissions(int count) {
        return after(empty(), times(count, x -> x.permit(1, 2, COPY, 9)));
    }

    /** A part of the seconds 40 to 60, of person 1, free on day 20. */
    private static Build part() {
        return after(covered(), x -> x.addPart(0, 40, 60, 1, 20));
    }

    // ---- promises 7, 8 and 29

    private static void argumentsOfPermissions() {
        range("7: holder", 0, 7, 3, BAD_VALUE, Edges::rich, (x, v) -> x.permit(v, 0, LISTEN, 9));
        range("7: user", 0, 7, 3, BAD_VALUE, Edges::rich, (x, v) -> x.permit(0, v, LISTEN, 9));
        range("7: use", 0, 2, 3, BAD_VALUE, Edges::rich, (x, v) -> x.permit(0, 1, v, 9));
        range("7: last day", 0, 9999, 3, BAD_VALUE, Edges::rich, (x, v) -> x.permit(0, 1, LISTEN, v));
        recorded("7: a last day that is past", after(empty(), toDay(7)), x -> x.permit(0, 1, LISTEN, 6), 0);
        recorded("7: to the holder", empty(), x -> x.permit(5, 5, COPY, 6), 0);
        recorded("7: the same once more", permissions(1), x -> x.permit(1, 2, COPY, 9), 1);
        properties("29: the lowest values", after(empty(), x -> x.permit(0, 0, 0, 0)), (x, v) -> x.permission(0, v), 0, 0, 0, 0, 0);
        properties("29: the highest values", after(empty(), x -> x.permit(7, 7, 2, 9999)), (x, v) -> x.permission(0, v),
                7, 7, 2, 9999, 0);
    }

    private static void roomForPermissions() {
        Call one = x -> x.permit(3, 4, BROADCAST, 5);
        for (int count = 0; count <= 23; count++) {
            due("7: permission " + count, permissions(count), one, count);
        }
        recorded("7: the first permission", empty(), one, 0);
        recorded("7: the last permission", permissions(23), one, 23);
        recordedWithTheReason("7: a permission", one, 3);
        keeps("7: a 25th permission", permissions(24), one, FULL);
        keeps("7: revoked ones count", after(permissions(24), x -> x.revoke(0), x -> x.revoke(23)), one, FULL);
        keeps("7: past ones count", after(permissions(24), toDay(10)), one, FULL);
        keeps("7: a wrong holder before no room", permissions(24), x -> x.permit(8, 0, 0, 0), BAD_VALUE);
        keeps("7: a wrong user before no room", permissions(24), x -> x.permit(0, -1, 0, 0), BAD_VALUE);
        keeps("7: a wrong use before no room", permissions(24), x -> x.permit(0, 0, 3, 0), BAD_VALUE);
        keeps("7: a wrong day before no room", permissions(24), x -> x.permit(0, 0, 0, 10000), BAD_VALUE);
        due("7: room again after undo", after(permissions(24), x -> x.undo()), one, 23);
        properties("29: one in place of one that was undone",
                after(permissions(1), x -> x.revoke(0), times(2, x -> x.undo()), one), (x, v) -> x.permission(0, v), 3, 4, 2, 5, 0);
    }

    private static void revoking() {
        numbers("8: permission", 3, Edges::rich, (x, v) -> x.revoke(v));
        keeps("8: no permission at all", empty(), x -> x.revoke(0), BAD_INDEX);
        keeps("8: the 25th", permissions(24), x -> x.revoke(24), BAD_INDEX);
        recorded("8: the 24th", permissions(24), x -> x.revoke(23), 23);
        recorded("8: the only one", permissions(1), x -> x.revoke(0), 0);
        recordedWithTheReason("8: one of two", x -> x.revoke(0), 1);
        recorded("8: one that is past", after(permissions(2), toDay(50)), x -> x.revoke(1), 1);
        keeps("8: one that is revoked", Edges::rich, x -> x.revoke(2), NOT_POSSIBLE);
        keeps("8: one that was just revoked", after(permissions(3), x -> x.revoke(1)), x -> x.revoke(1), NOT_POSSIBLE);
        due("8: another one then", after(permissions(3), x -> x.revoke(1)), x -> x.revoke(2), 1);
        due("8: again after undo", after(permissions(3), x -> x.revoke(1), x -> x.undo()), x -> x.revoke(1), 2);
    }

    private static void lookingAtPermissions() {
        properties("29: permission 0", Edges::rich, (x, v) -> x.permission(0, v), 1, 0, BROADCAST, 30, 0);
        properties("29: permission 2, revoked", Edges::rich, (x, v) -> x.permission(2, v), 3, 4, LISTEN, 5, 1);
        numbers("29: permission", 3, Edges::rich, (x, v) -> x.permission(v, 0));
        numbers("29: permission of 24", 24, permissions(24), (x, v) -> x.permission(v, 4));
        numbers("29: no permission before a wrong property", 3, Edges::rich, (x, v) -> x.permission(v, 5));
        numbers("29: no permission before a wrong property", 3, Edges::rich, (x, v) -> x.permission(v, -1));
    }

    // ---- promise 9

    private static void argumentsOfRequests() {
        numbers("9: recording", 3, Edges::rich, (x, v) -> x.request(0, v, 0, 1, LISTEN, 1));
        numbers("9: no recording at all", 0, empty(), (x, v) -> x.request(0, v, 0, 1, LISTEN, 1));
        range("9: user", 0, 7, 5, BAD_VALUE, Edges::rich, (x, v) -> x.request(v, 0, 0, 1, LISTEN, 1));
        range("9: start", 0, 99, 5, BAD_VALUE, Edges::rich, (x, v) -> x.request(0, 0, v, 100, LISTEN, 1));
        range("9: end", 1, 100, 5, BAD_VALUE, Edges::rich, (x, v) -> x.request(0, 0, 0, v, LISTEN, 1));
        range("9: end behind 50", 51, 100, 5, BAD_VALUE, Edges::rich, (x, v) -> x.request(0, 0, 50, v, LISTEN, 1));
        range("9: start before 50", 0, 49, 5, BAD_VALUE, Edges::rich, (x, v) -> x.request(0, 0, v, 50, LISTEN, 1));
        range("9: use", 0, 2, 5, BAD_VALUE, Edges::rich, (x, v) -> x.request(0, 0, 0, 1, v, 1));
        range("9: quality", 1, 100, 5, BAD_VALUE, Edges::rich, (x, v) -> x.request(0, 0, 0, 1, LISTEN, v));
        keeps("9: behind the last second", Edges::rich, x -> x.request(0, 0, 100, 101, LISTEN, 1), BAD_VALUE);
        keeps("9: the far ends", Edges::rich, x -> x.request(0, 0, LOW, HIGH, LISTEN, 1), BAD_VALUE);
        keeps("9: the far ends turned round", Edges::rich, x -> x.request(0, 0, HIGH, LOW, LISTEN, 1), BAD_VALUE);
        keeps("9: no recording before a wrong user", Edges::rich, x -> x.request(8, 3, 0, 1, LISTEN, 1), BAD_INDEX);
        keeps("9: no recording before a wrong start", Edges::rich, x -> x.request(0, 3, -1, 1, LISTEN, 1), BAD_INDEX);
        keeps("9: no recording before a wrong end", Edges::rich, x -> x.request(0, -1, 0, 0, LISTEN, 1), BAD_INDEX);
        keeps("9: no recording before a wrong use", Edges::rich, x -> x.request(0, -1, 0, 1, 3, 1), BAD_INDEX);
        keeps("9: no recording before a wrong quality", Edges::rich, x -> x.request(0, 3, 0, 1, LISTEN, 0), BAD_INDEX);
    }

    private static void roomForRequests() {
        for (int count = 0; count <= 15; count++) {
            due("9: request " + count, requests(count), ask(COPY, 5), count);
        }
        recorded("9: the first request", recording(), ask(COPY, 5), 0);
        recorded("9: the last request", requests(15), ask(COPY, 5), 15);
        recordedWithTheReason("9: a request", ask(COPY, 5), 5);
        keeps("9: a 17th request", requests(16), ask(COPY, 5), FULL);
        keeps("9: withdrawn ones count", after(requests(16), x -> x.withdraw(0)), ask(COPY, 5), FULL);
        keeps("9: answered ones count", after(requests(16), x -> x.answer(15)), ask(COPY, 5), FULL);
        keeps("9: expired ones count", after(requests(16), toDay(31)), ask(COPY, 5), FULL);
        keeps("9: no recording before no room", requests(16), x -> x.request(0, 1, 0, 1, LISTEN, 1), BAD_INDEX);
        keeps("9: a wrong user before no room", requests(16), x -> x.request(8, 0, 0, 1, LISTEN, 1), BAD_VALUE);
        keeps("9: a wrong start before no room", requests(16), x -> x.request(0, 0, -1, 1, LISTEN, 1), BAD_VALUE);
        keeps("9: a wrong end before no room", requests(16), x -> x.request(0, 0, 0, 101, LISTEN, 1), BAD_VALUE);
        keeps("9: a wrong use before no room", requests(16), x -> x.request(0, 0, 0, 1, 3, 1), BAD_VALUE);
        keeps("9: a wrong quality before no room", requests(16), x -> x.request(0, 0, 0, 1, LISTEN, 0), BAD_VALUE);
        due("9: room again after undo", after(requests(16), x -> x.undo()), ask(COPY, 5), 15);
        properties("30: one in place of one that was undone",
                after(recording(), x -> x.addPart(0, 0, 9, 1, 9), x -> x.permit(1, 3, 2, 9), x -> x.transfer(0, 0, 190, 0),
                        x -> x.request(3, 0, 0, 9, COPY, 9), x -> x.answer(0), times(2, x -> x.undo()), ask(LISTEN, 1)),
                (x, v) -> x.requested(0, v), 0, 0, 0, 0, 10, LISTEN, 1, 30, NONE, 0);
    }

    private static void firstDueDays() {
        for (int day : new int[] {0, 1, 9968, 9969, 9970, 9998, 9999}) {
            due("9: due when asked on day " + day, after(recording(), toDay(day), ask(COPY, 5)), x -> x.requested(0, 7),
                    day > 9969 ? 9999 : day + 30);
        }
    }

    // ---- promises 10, 11 and 30

    private static void dueDays() {
        numbers("10: request", 5, Edges::rich, (x, v) -> x.setDue(v, 9));
        numbers("10: no request at all", 0, recording(), (x, v) -> x.setDue(v, 9));
        numbers("10: request of 16", 16, requests(16), (x, v) -> x.setDue(v, 9));
        numbers("10: no request before a wrong day", 5, Edges::rich, (x, v) -> x.setDue(v, 10000));
        range("10: day", 0, 9999, 30, BAD_VALUE, requests(1), (x, v) -> x.setDue(0, v));
        range("10: day, from day 12 on", 12, 9999, 30, BAD_VALUE, after(requests(1), toDay(12)), (x, v) -> x.setDue(0, v));
        range("10: day, on the last one", 9999, 9999, 9999, BAD_VALUE, after(recording(), toDay(9999), ask(LISTEN, 1)),
                (x, v) -> x.setDue(0, v));
        recorded("10: the day that it was", requests(1), x -> x.setDue(0, 30), 30);
        recordedWithTheReason("10: a later day", x -> x.setDue(1, 31), 30);
        due("10: the day before", after(requests(1), x -> x.setDue(0, 9999)), x -> x.setDue(0, 0), 9999);
        for (int state = 1; state <= 3; state++) {
            keeps("10: a request in state " + state, inState(state), x -> x.setDue(0, 50), NOT_POSSIBLE);
            keeps("10: a wrong day before state " + state, inState(state), x -> x.setDue(0, 30), BAD_VALUE);
            keeps("11: a request in state " + state, inState(state), x -> x.withdraw(0), NOT_POSSIBLE);
            refused("12: a request in state " + state, inState(state), x -> x.answer(0), 6);
            due("30: the state " + state, inState(state), x -> x.requested(0, 0), state);
        }
    }

    /** Request 0 is in a state, on day 31; request 1 is open. */
    private static Build inState(int state) {
        Call change = state == 1 ? x -> x.answer(0) : state == 3 ? x -> x.withdraw(0) : x -> x.setDue(0, 30);
        return after(requests(2), x -> x.setDue(1, 99), change, toDay(31));
    }

    private static void withdrawing() {
        numbers("11: request", 5, Edges::rich, (x, v) -> x.withdraw(v));
        numbers("11: no request at all", 0, recording(), (x, v) -> x.withdraw(v));
        recorded("11: the only one", requests(1), x -> x.withdraw(0), 0);
        recorded("11: the last of 16", requests(16), x -> x.withdraw(15), 15);
        recordedWithTheReason("11: one of two that are open", x -> x.withdraw(3), 1);
        due("11: again after undo", after(requests(2), x -> x.withdraw(0), x -> x.undo()), x -> x.withdraw(0), 1);
        due("11: due today", after(requests(1), toDay(30)), x -> x.withdraw(0), 0);
        keeps("11: due yesterday", after(requests(1), toDay(31)), x -> x.withdraw(0), NOT_POSSIBLE);
    }

    private static void lookingAtRequests() {
        properties("30: answered", Edges::rich, (x, v) -> x.requested(0, v), 1, 0, 0, 10, 55, COPY, 40, 30, 0, 50);
        properties("30: open", Edges::rich, (x, v) -> x.requested(1, v), 0, 2, 1, 0, 9, BROADCAST, 10, 30, NONE, 0);
        properties("30: withdrawn", Edges::rich, (x, v) -> x.requested(2, v), 3, 5, 0, 0, 9, BROADCAST, 50, 30, NONE, 0);
        properties("30: expired", Edges::rich, (x, v) -> x.requested(4, v), 2, 7, 0, 0, 100, COPY, 1, 0, NONE, 0);
        numbers("30: request", 5, Edges::rich, (x, v) -> x.requested(v, 0));
        numbers("30: request of 16", 16, requests(16), (x, v) -> x.requested(v, 9));
        numbers("30: no request before a wrong property", 5, Edges::rich, (x, v) -> x.requested(v, 10));
        numbers("30: no request before a wrong property", 5, Edges::rich, (x, v) -> x.requested(v, -1));
    }

    // ---- promise 12

    private static void whatIsRefused() {
        numbers("12: request", 5, Edges::rich, (x, v) -> x.answer(v));
        numbers("12: no request at all", 0, covered(), (x, v) -> x.answer(v));
        refused("12: no pass at all", after(recording(), ask(LISTEN, 1)), x -> x.answer(0), 7);
        refused("12: a pass of the other side", after(recording(), x -> x.transfer(0, 0, 190, 1), ask(LISTEN, 1)), x -> x.answer(0), 7);
        recorded("12: just as good as accepted", after(covered(), ask(LISTEN, 90)), x -> x.answer(0), 0);
        recorded("12: better than accepted", after(covered(), ask(LISTEN, 89)), x -> x.answer(0), 0);
        refused("12: worse by 1 than accepted", after(covered(), ask(LISTEN, 91)), x -> x.answer(0), 8);
        refused("12: the best quality alone", after(covered(), ask(LISTEN, 100)), x -> x.answer(0), 8);
        due("12: the best pass counts, not the latest", after(covered(), x -> x.transfer(0, 0, 95, 0), ask(LISTEN, 90)),
                x -> x.answer(0), 0);
        due("12: the best pass, not the first", after(recording(), x -> x.transfer(0, 0, 95, 0), x -> x.transfer(0, 0, 190, 0),
                ask(LISTEN, 1)), x -> x.answer(0), 1);
        refused("12: a part lacks rights", after(part(), x -> x.request(0, 0, 59, 60, LISTEN, 1)), x -> x.answer(0), 9);
        recorded("12: no part is concerned", after(part(), x -> x.request(0, 0, 60, 61, LISTEN, 1)), x -> x.answer(0), 0);
        recorded("12: the own part", after(part(), x -> x.request(1, 0, 0, 100, BROADCAST, 1)), x -> x.answer(0), 0);
        refused("12: protected for a day more", after(part(), x -> x.request(0, 0, 0, 100, COPY, 1), toDay(19)), x -> x.answer(0), 9);
        recorded("12: free from today on", after(part(), x -> x.request(0, 0, 0, 100, COPY, 1), toDay(20)), x -> x.answer(0), 0);
        recorded("12: due today", after(covered(), ask(LISTEN, 1), toDay(30)), x -> x.answer(0), 0);
        refused("12: due yesterday", after(covered(), ask(LISTEN, 1), toDay(31)), x -> x.answer(0), 6);
        refused("12: a second time", after(covered(), ask(LISTEN, 1), x -> x.answer(0)), x -> x.answer(0), 6);
        due("12: again after undo", after(covered(), ask(LISTEN, 1), x -> x.answer(0), x -> x.undo()), x -> x.answer(0), 0);
    }

    private static void whichRefusalIsFirst() {
        Call wide = x -> x.request(0, 0, 0, 100, BROADCAST, 95);
        refused("12: 6 before 7", after(recording(), wide, x -> x.withdraw(0)), x -> x.answer(0), 6);
        refused("12: 6 before 8", after(covered(), wide, x -> x.withdraw(0)), x -> x.answer(0), 6);
        refused("12: 6 before 9", after(part(), x -> x.request(0, 0, 0, 100, BROADCAST, 5), x -> x.withdraw(0)), x -> x.answer(0), 6);
        refused("12: 7 before 9", after(recording(), x -> x.addPart(0, 40, 60, 1, 20), wide), x -> x.answer(0), 7);
        refused("12: 8 before 9", after(part(), wide), x -> x.answer(0), 8);
        refused("12: a reason in place of an older one", Edges::rich, x -> x.answer(0), 6);
        refused("12: the same reason again", Edges::rich, x -> x.answer(3), 9);
        recorded("12: an answer takes the reason away", Edges::rich, x -> x.answer(1), 0);
        due("12: it is 0 then", after(Edges::rich, x -> x.answer(1)), x -> x.total(11), 0);
        keeps("12: no request leaves the reason", Edges::rich, x -> x.answer(5), BAD_INDEX);
    }

    /** Parts of the persons 1, 2 and 1, and one of the user 0; all share the seconds 10 to 20. */
    private static Build manyParts() {
        return after(covered(), x -> x.addPart(0, 0, 20, 1, 99), x -> x.addPart(0, 10, 100, 2, 99),
                x -> x.addPart(0, 10, 20, 1, 99), x -> x.addPart(0, 0, 100, 0, 99),
                x -> x.permit(1, 0, BROADCAST, 99), x -> x.permit(2, 0, BROADCAST, 99));
    }

    private static void money(int use, int price) {
        Build done = after(manyParts(), x -> x.request(0, 0, 19, 21, use, 1), x -> x.answer(0));
        due("12: the fee of use " + use, done, x -> x.requested(0, 9), 4 * price);
        due("34: the fee of use " + use, done, x -> x.paid(0), 4 * price);
        due("33: of both own parts", done, x -> x.income(1), 2 * price);
        due("33: of the only part", done, x -> x.income(2), 2 * price);
        due("33: the user gets nothing", done, x -> x.income(0), 0);
        due("34: the holders pay nothing", done, x -> x.paid(1) + x.paid(2), 0);
        Build twice = after(done, x -> x.request(0, 0, 0, 1, use, 1), x -> x.answer(1));
        due("34: the sum of both fees", twice, x -> x.paid(0), 5 * price);
        due("33: the sum of both", twice, x -> x.income(1), 3 * price);
        due("33: nothing more for the other one", twice, x -> x.income(2), 2 * price);
        due("30: the fee of the second", twice, x -> x.requested(1, 9), price);
        due("30: the fee of the first stays", twice, x -> x.requested(0, 9), 4 * price);
    }

    private static void answers() {
        money(LISTEN, 0);
        money(COPY, 1);
        money(BROADCAST, 3);
        Build better = after(covered(), ask(LISTEN, 1), x -> x.answer(0), x -> x.addMachine(REEL, 7, HALF_TRACK, 100),
                x -> x.transfer(0, 1, 190, 0));
        due("30: the pass from which it was answered stays", better, x -> x.requested(0, 8), 0);
        due("30: though a better one was made", better, x -> x.bestPass(0), 1);
        due("30: refused, so no pass", after(part(), x -> x.request(0, 0, 0, 100, COPY, 1), x -> x.answer(0)),
                x -> x.requested(0, 8), NONE);
        due("30: refused, so it is open", after(part(), x -> x.request(0, 0, 0, 100, COPY, 1), x -> x.answer(0)),
                x -> x.requested(0, 0), 0);
        for (int person : new int[] {0, 7}) {
            Build done = after(covered(), x -> x.addPart(0, 0, 100, 7 - person, 99), x -> x.permit(7 - person, person, COPY, 0),
                    x -> x.request(person, 0, 0, 100, COPY, 1), x -> x.answer(0));
            due("34: paid by " + person, done, x -> x.paid(person), 100);
            due("33: got by " + (7 - person), done, x -> x.income(7 - person), 100);
        }
        range("33: person", 0, 7, 0, BAD_VALUE, requests(0), (x, v) -> x.income(v));
        range("34: person", 0, 7, 0, BAD_VALUE, requests(0), (x, v) -> x.paid(v));
        outside("33: person", BAD_VALUE, Edges::rich, (x, v) -> x.income(v), -1, 8, LOW, HIGH);
        outside("34: person", BAD_VALUE, Edges::rich, (x, v) -> x.paid(v), -1, 8, LOW, HIGH);
        keeps("33: of one part", Edges::rich, x -> x.income(1), 45);
        keeps("33: of the other part", Edges::rich, x -> x.income(2), 5);
        keeps("34: of both", Edges::rich, x -> x.paid(0), 50);
    }

    private static void answersOfUnlikeNumbers() {
        recorded("12: request 1 for recording 3", Edges::unlike, x -> x.answer(1), 2);
        Build done = after(Edges::unlike, x -> x.answer(1));
        properties("30: request 1", done, (x, v) -> x.requested(1, v), 1, 2, 3, 45, 60, COPY, 80, 35, 2, 20);
        int[] income = {0, 0, 0, 0, 0, 5, 15, 0};
        for (int person = 0; person <= 7; person++) {
            int chosen = person;
            due("33: person " + person, done, x -> x.income(chosen), income[person]);
            due("34: person " + person, done, x -> x.paid(chosen), person == 2 ? 20 : 0);
            due("33: person " + person + ", undone", after(done, x -> x.undo()), x -> x.income(chosen), 0);
            due("34: person " + person + ", undone", after(done, x -> x.undo()), x -> x.paid(chosen), 0);
        }
        refused("12: a permission for a lower use", Edges::unlike, x -> x.answer(2), 9);
        recorded("12: the permission is good for that use", Edges::unlike, x -> x.answer(3), 2);
        refused("12: no permission at all", Edges::unlike, x -> x.answer(0), 9);
        recorded("12: for a broadcast, just good enough", Edges::unlike, x -> x.answer(4), 1);
        due("12: three times the seconds", after(Edges::unlike, x -> x.answer(4)), x -> x.requested(4, 9), 21);
        refused("12: no pass of this recording", Edges::unlike, x -> x.answer(5), 7);
        due("31: for copying", Edges::unlike, x -> x.lacking(1, 3, 60, 70, COPY), 2);
        due("31: for listening", Edges::unlike, x -> x.lacking(1, 3, 60, 70, LISTEN), 0);
        due("31: of both parts", Edges::unlike, x -> x.lacking(1, 3, 45, 60, COPY), 3);
        due("32: of both parts", Edges::unlike, x -> x.fee(1, 3, 45, 60, BROADCAST), 60);
    }

    /** Recording 1 has a part over the same seconds, which is none of recording 0's. */
    private static void partsOfTheNextRecording() {
        Build build = after(covered(), x -> x.addRecording(0, 2, 0, 600), x -> x.addPart(1, 0, 600, 5, 99), ask(COPY, 1));
        for (int count = 0; count <= 4; count++) {
            Build own = after(build, times(count, x -> x.addPart(0, 0, 9, 6, 99)), x -> x.permit(6, 0, COPY, 9));
            recorded("12: with " + count + " own parts", own, x -> x.answer(0), 0);
            due("33: the holder of another recording, " + count, after(own, x -> x.answer(0)), x -> x.income(5), 0);
            due("34: for " + count + " own parts", after(own, x -> x.answer(0)), x -> x.paid(0), 9 * count);
            due("32: for " + count + " own parts", own, x -> x.fee(0, 0, 0, 10, COPY), 9 * count);
            due("31: " + count + " own parts", own, x -> x.lacking(1, 0, 0, 10, COPY), (1 << count) - 1);
        }
    }

    // ---- promise 13

    private static void daysThatPass() {
        range("13: days", 1, 99, 0, BAD_VALUE, recording(), (x, v) -> x.passDays(v));
        outside("13: days", BAD_VALUE, Edges::rich, (x, v) -> x.passDays(v), 0, 100, -1, -99, LOW, HIGH);
        recordedWithTheReason("13: a day", x -> x.passDays(1), 0);
        recorded("13: the first day", empty(), x -> x.passDays(1), 0);
        due("13: today after a day", after(empty(), x -> x.passDays(1)), x -> x.total(0), 1);
        due("13: today after 99 days", after(empty(), x -> x.passDays(99)), x -> x.total(0), 99);
        recorded("13: to the last day", after(empty(), toDay(9998)), x -> x.passDays(1), 0);
        keeps("13: beyond the last day by 1", after(empty(), toDay(9998)), x -> x.passDays(2), NOT_POSSIBLE);
        recorded("13: 99 days to the last day", after(empty(), toDay(9900)), x -> x.passDays(99), 0);
        keeps("13: 99 days beyond it by 1", after(empty(), toDay(9901)), x -> x.passDays(99), NOT_POSSIBLE);
        keeps("13: none after the last day", after(empty(), toDay(9999)), x -> x.passDays(1), NOT_POSSIBLE);
        keeps("13: 0 days before the last day", after(empty(), toDay(9999)), x -> x.passDays(0), BAD_VALUE);
        keeps("13: 100 days before the last day", after(empty(), toDay(9999)), x -> x.passDays(100), BAD_VALUE);
        keeps("13: far too many on the last day", after(empty(), toDay(9999)), x -> x.passDays(HIGH), BAD_VALUE);
        due("13: the last day", after(empty(), toDay(9999)), x -> x.total(0), 9999);
        Build used = after(covered(), x -> x.addMachine(REEL, 7, HALF_TRACK, 9), x -> x.transfer(0, 1, 380, 1), x -> x.passDays(1));
        due("13: all time of the first machine is back", used, x -> x.machine(0, 4), 28800);
        due("13: all time of the last machine is back", used, x -> x.machine(1, 4), 28800);
        due("13: no play is back", used, x -> x.carrier(0, 4), 96);
    }

    private static void daysOnWhichRequestsExpire() {
        due("13: due on the new day", after(requests(1), toDay(29)), x -> x.passDays(1), 0);
        due("13: due before the new day", after(requests(1), toDay(30)), x -> x.passDays(1), 1);
        due("13: due long before", requests(1), x -> x.passDays(99), 1);
        due("13: due today", after(requests(1), x -> x.setDue(0, 0)), x -> x.passDays(1), 1);
        due("13: due tomorrow", after(requests(1), x -> x.setDue(0, 1)), x -> x.passDays(1), 0);
        due("13: still open", after(requests(1), toDay(30)), x -> x.requested(0, 0), 0);
        due("13: expired", after(requests(1), toDay(31)), x -> x.requested(0, 0), 2);
        due("13: all 16 at once", after(requests(16), toDay(30)), x -> x.passDays(1), 16);
        due("13: only those that expire by this", after(requests(4), x -> x.setDue(1, 9), x -> x.setDue(2, 9), toDay(30)),
                x -> x.passDays(1), 2);
        due("13: an expired one does not expire again", after(requests(1), toDay(31)), x -> x.passDays(99), 0);
        due("13: an answered one does not expire", after(requests(1), x -> x.answer(0)), x -> x.passDays(99), 0);
        due("13: it is answered", after(requests(1), x -> x.answer(0), x -> x.passDays(99)), x -> x.requested(0, 0), 1);
        due("13: a withdrawn one does not expire", after(requests(1), x -> x.withdraw(0)), x -> x.passDays(99), 0);
        due("13: it is withdrawn", after(requests(1), x -> x.withdraw(0), x -> x.passDays(99)), x -> x.requested(0, 0), 3);
        due("13: the last day never expires", after(recording(), toDay(9998), ask(COPY, 5)), x -> x.passDays(1), 0);
        recorded("13: one expires", after(requests(2), x -> x.setDue(1, 3)), x -> x.passDays(4), 1);
    }

    // ---- promises 31 and 32

    private static void argumentsOfExcerpts(String name, int due, ExcerptCall call) {
        numbers(name + ": recording", 3, Edges::rich, (x, v) -> call.on(x, 0, v, 0, 1, LISTEN));
        numbers(name + ": no recording at all", 0, empty(), (x, v) -> call.on(x, 0, v, 0, 1, LISTEN));
        range(name + ": user", 0, 7, due, BAD_VALUE, recording(), (x, v) -> call.on(x, v, 0, 0, 1, LISTEN));
        range(name + ": start", 0, 99, due, BAD_VALUE, recording(), (x, v) -> call.on(x, 0, 0, v, 100, LISTEN));
        range(name + ": end", 1, 100, due, BAD_VALUE, recording(), (x, v) -> call.on(x, 0, 0, 0, v, LISTEN));
        range(name + ": end behind 50", 51, 100, due, BAD_VALUE, recording(), (x, v) -> call.on(x, 0, 0, 50, v, LISTEN));
        range(name + ": start before 50", 0, 49, due, BAD_VALUE, recording(), (x, v) -> call.on(x, 0, 0, v, 50, LISTEN));
        range(name + ": use", 0, 2, due, BAD_VALUE, recording(), (x, v) -> call.on(x, 0, 0, 0, 1, v));
        keeps(name + ": behind the last second", Edges::rich, x -> call.on(x, 0, 0, 100, 101, LISTEN), BAD_VALUE);
        keeps(name + ": the far ends", Edges::rich, x -> call.on(x, 0, 0, LOW, HIGH, LISTEN), BAD_VALUE);
        keeps(name + ": the far ends turned round", Edges::rich, x -> call.on(x, 0, 0, HIGH, LOW, LISTEN), BAD_VALUE);
        keeps(name + ": no recording before a wrong user", Edges::rich, x -> call.on(x, 8, 3, 0, 1, LISTEN), BAD_INDEX);
        keeps(name + ": no recording before a wrong start", Edges::rich, x -> call.on(x, 0, 3, -1, 1, LISTEN), BAD_INDEX);
        keeps(name + ": no recording before a wrong end", Edges::rich, x -> call.on(x, 0, -1, 0, 0, LISTEN), BAD_INDEX);
        keeps(name + ": no recording before a wrong use", Edges::rich, x -> call.on(x, 0, -1, 0, 1, 3), BAD_INDEX);
    }

    interface ExcerptCall {
        int on(SoundArchive x, int user, int recording, int from, int to, int use);
    }

    private static void secondsThatAreShared() {
        argumentsOfExcerpts("31", 0, SoundArchive::lacking);
        argumentsOfExcerpts("32", 0, SoundArchive::fee);
        // The part has the seconds 40 to 60.
        int[][] excerpts = {{0, 40, 0}, {39, 40, 0}, {39, 41, 1}, {40, 41, 1}, {0, 41, 1}, {59, 60, 1}, {59, 61, 1}, {60, 61, 0},
            {60, 100, 0}, {0, 100, 20}, {40, 60, 20}, {41, 59, 18}, {39, 59, 19}, {41, 61, 19}};
        for (int[] e : excerpts) {
            String name = "seconds " + e[0] + " to " + e[1];
            keeps("31: " + name, part(), x -> x.lacking(0, 0, e[0], e[1], LISTEN), e[2] > 0 ? 1 : 0);
            keeps("32: " + name, part(), x -> x.fee(0, 0, e[0], e[1], LISTEN), 0);
            keeps("32: copies of " + name, part(), x -> x.fee(0, 0, e[0], e[1], COPY), e[2]);
            keeps("32: broadcasts of " + name, part(), x -> x.fee(0, 0, e[0], e[1], BROADCAST), 3 * e[2]);
        }
        for (int use = 0; use <= 2; use++) {
            int chosen = use;
            keeps("31: the own part", part(), x -> x.lacking(1, 0, 0, 100, chosen), 0);
            keeps("32: the own part", part(), x -> x.fee(1, 0, 0, 100, chosen), 0);
            keeps("31: no part at all", recording(), x -> x.lacking(0, 0, 0, 100, chosen), 0);
            keeps("32: no part at all", recording(), x -> x.fee(0, 0, 0, 100, chosen), 0);
            due("31: on the last protected day", after(part(), toDay(19)), x -> x.lacking(0, 0, 0, 100, chosen), 1);
            due("31: on the first free day", after(part(), toDay(20)), x -> x.lacking(0, 0, 0, 100, chosen), 0);
        }
        due("32: on the last protected day", after(part(), toDay(19)), x -> x.fee(0, 0, 0, 100, BROADCAST), 60);
        due("32: on the first free day", after(part(), toDay(20)), x -> x.fee(0, 0, 0, 100, BROADCAST), 0);
        due("31: never protected", after(recording(), x -> x.addPart(0, 0, 9, 1, 0)), x -> x.lacking(0, 0, 0, 9, LISTEN), 0);
    }

    private static void severalParts() {
        Build four = after(recording(), times(4, x -> x.addPart(0, 99, 100, 1, 9)));
        due("31: all four parts", four, x -> x.lacking(0, 0, 99, 100, LISTEN), 15);
        due("32: all four parts", four, x -> x.fee(0, 0, 99, 100, BROADCAST), 12);
        for (int part = 0; part <= 3; part++) {
            int chosen = part;
            Build one = after(recording(), x -> x.addPart(0, 0, 1, 1, 9), x -> x.addPart(0, 1, 2, 1, 9),
                    x -> x.addPart(0, 2, 3, 1, 9), x -> x.addPart(0, 3, 4, 1, 9));
            due("31: part " + part, one, x -> x.lacking(0, 0, chosen, chosen + 1, LISTEN), 1 << part);
            due("31: all but the parts from " + part + " on", one, x -> x.lacking(0, 0, 0, chosen + 1, LISTEN), (2 << part) - 1);
        }
        Build other = after(part(), x -> x.addRecording(0, 2, 0, 100), x -> x.addPart(1, 0, 100, 2, 99));
        due("31: parts of another recording", other, x -> x.lacking(2, 0, 0, 40, LISTEN), 0);
        due("32: parts of another recording", other, x -> x.fee(0, 0, 0, 100, COPY), 20);
        due("32: parts of this one", other, x -> x.fee(0, 1, 0, 100, COPY), 100);
    }

    private static void permissionsThatAreGood() {
        for (int given = 0; given <= 2; given++) {
            for (int use = 0; use <= 2; use++) {
                int its = given;
                int chosen = use;
                due("31: given for " + given + ", used for " + use, after(part(), x -> x.permit(1, 0, its, 9)),
                        x -> x.lacking(0, 0, 0, 100, chosen), given >= use ? 0 : 1);
            }
        }
        Build lent = after(part(), x -> x.permit(1, 0, COPY, 9));
        due("31: the last day", after(lent, toDay(9)), x -> x.lacking(0, 0, 0, 100, COPY), 0);
        due("31: the day after it", after(lent, toDay(10)), x -> x.lacking(0, 0, 0, 100, COPY), 1);
        due("31: today alone", after(part(), x -> x.permit(1, 0, COPY, 0)), x -> x.lacking(0, 0, 0, 100, COPY), 0);
        due("31: revoked", after(lent, x -> x.revoke(0)), x -> x.lacking(0, 0, 0, 100, LISTEN), 1);
        due("31: revoked, but given again", after(lent, x -> x.revoke(0), x -> x.permit(1, 0, COPY, 9)),
                x -> x.lacking(0, 0, 0, 100, COPY), 0);
        due("31: one revoked, another one left", after(lent, x -> x.permit(1, 0, LISTEN, 9), x -> x.revoke(0)),
                x -> x.lacking(0, 0, 0, 100, LISTEN), 0);
        due("31: of another holder", after(part(), x -> x.permit(2, 0, COPY, 9)), x -> x.lacking(0, 0, 0, 100, COPY), 1);
        due("31: to another user", after(part(), x -> x.permit(1, 2, COPY, 9)), x -> x.lacking(0, 0, 0, 100, COPY), 1);
        due("31: the wrong way round", after(part(), x -> x.permit(0, 1, COPY, 9)), x -> x.lacking(0, 0, 0, 100, COPY), 1);
        due("31: the last of 24", after(part(), times(23, x -> x.permit(2, 0, COPY, 9)), x -> x.permit(1, 0, COPY, 9)),
                x -> x.lacking(0, 0, 0, 100, COPY), 0);
        due("31: the first of 24", after(lent, times(23, x -> x.permit(2, 0, COPY, 9))), x -> x.lacking(0, 0, 0, 100, COPY), 0);
        due("32: a permission does not lower the fee", lent, x -> x.fee(0, 0, 0, 100, COPY), 20);
        due("32: nor does it add one", after(part(), x -> x.permit(1, 0, BROADCAST, 9)), x -> x.fee(0, 0, 0, 100, LISTEN), 0);
    }

    // ---- promises 35 and 36

    /** Two requests of which the second comes first though all that counts less speaks for the other one. */
    private static void order(String name, int[] first, int[] second, int due) {
        Build build = after(recording(), ask(first[1], first[2]), ask(second[1], second[2]),
                x -> x.setDue(0, first[0]), x -> x.setDue(1, second[0]));
        keeps("35: " + name + ": place 0", build, x -> x.next(0), due);
        keeps("35: " + name + ": place 1", build, x -> x.next(1), 1 - due);
        keeps("35: " + name + ": place 2", build, x -> x.next(2), NONE);
    }

    private static void placesOfRequests() {
        order("due a day earlier", new int[] {10, BROADCAST, 100}, new int[] {9, LISTEN, 1}, 1);
        order("due a day later", new int[] {9, LISTEN, 1}, new int[] {10, BROADCAST, 100}, 0);
        order("due on the first and the last day", new int[] {9999, COPY, 5}, new int[] {0, COPY, 5}, 1);
        order("a higher use", new int[] {9, LISTEN, 100}, new int[] {9, COPY, 1}, 1);
        order("a still higher use", new int[] {9, COPY, 100}, new int[] {9, BROADCAST, 1}, 1);
        order("a lower use", new int[] {9, COPY, 1}, new int[] {9, LISTEN, 100}, 0);
        order("a higher quality", new int[] {9, COPY, 50}, new int[] {9, COPY, 51}, 1);
        order("a lower quality", new int[] {9, COPY, 51}, new int[] {9, COPY, 50}, 0);
        order("the smaller number", new int[] {9, COPY, 50}, new int[] {9, COPY, 50}, 0);
        outside("35: place", BAD_VALUE, Edges::rich, (x, v) -> x.next(v), -1, LOW);
        outside("35: place with none open", BAD_VALUE, empty(), (x, v) -> x.next(v), -1, LOW);
        outside("35: place", NONE, Edges::rich, (x, v) -> x.next(v), 2, 3, 5, 16, HIGH);
        outside("35: place with none open", NONE, after(requests(1), x -> x.withdraw(0)), (x, v) -> x.next(v), 0, 1, HIGH);
        keeps("35: the first place", Edges::rich, x -> x.next(0), 1);
        keeps("35: the last place", Edges::rich, x -> x.next(1), 3);
        for (int place = 0; place <= 15; place++) {
            int chosen = place;
            due("35: place " + place + " of 16", requests(16), x -> x.next(chosen), place);
        }
        due("35: place 16 of 16", requests(16), x -> x.next(16), NONE);
        for (int state = 1; state <= 3; state++) {
            due("35: a request in state " + state + " has no place", inState(state), x -> x.next(0), 1);
            due("35: nor the last one", inState(state), x -> x.next(1), NONE);
        }
        due("35: due today, so open", after(requests(1), toDay(30)), x -> x.next(0), 0);
    }

    private static void totals() {
        properties("36: total", Edges::rich, (x, v) -> x.total(v), 1, 2, 2, 3, 2, 3, 5, 2, 1, 1, 1, 9, 5, 2);
        properties("36: different numbers", after(Edges::unlike, x -> x.answer(1), x -> x.withdraw(0), x -> x.withdraw(4),
                x -> x.setDue(2, 5), x -> x.passDays(1), x -> x.undo(), x -> x.append('x')), (x, v) -> x.total(v),
                5, 3, 2, 5, 3, 4, 6, 3, 1, 0, 2, 0, 4, 1);
        properties("36: all expired but two", after(Edges::unlike, x -> x.setDue(2, 99), x -> x.answer(1), toDay(36), x -> x.answer(2)),
                (x, v) -> x.total(v), 36, 3, 2, 5, 3, 4, 6, 1, 1, 4, 0, 9, 5, 0);
        properties("36: of a new object", empty(), (x, v) -> x.total(v), 0, 0, 0, 0, 0, 0, 0, 0, 0, 0, 0, 0, 0, 0);
        properties("36: with all permissions", after(permissions(24), x -> x.revoke(0)), (x, v) -> x.total(v),
                0, 0, 0, 0, 0, 24, 0, 0, 0, 0, 0, 0, 5, 0);
        properties("36: with all requests", requests(16), (x, v) -> x.total(v), 0, 1, 1, 1, 1, 0, 16, 16, 0, 0, 0, 0, 5, 0);
        properties("36: all expired", after(requests(16), toDay(31)), (x, v) -> x.total(v),
                31, 1, 1, 1, 1, 0, 16, 0, 0, 16, 0, 0, 5, 0);
        properties("36: with a full text", after(empty(), times(80, x -> x.append(32))), (x, v) -> x.total(v),
                0, 0, 0, 0, 0, 0, 0, 0, 0, 0, 0, 0, 0, 80);
    }

    public static void main(String[] args) {
        argumentsOfPermissions();
        roomForPermissions();
        revoking();
        lookingAtPermissions();
        argumentsOfRequests();
        roomForRequests();
        firstDueDays();
        dueDays();
        withdrawing();
        lookingAtRequests();
        whatIsRefused();
        whichRefusalIsFirst();
        answers();
        answersOfUnlikeNumbers();
        partsOfTheNextRecording();
        daysThatPass();
        daysOnWhichRequestsExpire();
        secondsThatAreShared();
        severalParts();
        permissionsThatAreGood();
        placesOfRequests();
        totals();
        Check.finish();
    }
}
