/**
 * An archive of sound recordings: carriers are played on machines, recordings
 * lie on their tracks, requests for excerpts are answered from the best pass.
 *
 * The columns of the tables stand in the order in which the document numbers
 * the properties, so that looking at a property is reading a column.
 */
public final class SoundArchive {
    public static final int BAD_INDEX = -1;
    public static final int BAD_VALUE = -2;
    public static final int NOT_POSSIBLE = -3;
    public static final int FULL = -4;
    public static final int REFUSED = -5;
    public static final int NONE = -6;
    public static final int DISC = 0, REEL = 1, CASSETTE = 2;
    public static final int FULL_TRACK = 0, HALF_TRACK = 1, QUARTER_TRACK = 2, PAIRED_TRACK = 3;
    public static final int LISTEN = 0, COPY = 1, BROADCAST = 2;

    private static final int MOST_CARRIERS = 8;
    private static final int MOST_MACHINES = 4;
    private static final int MOST_RECORDINGS = 16;
    private static final int MOST_PASSES = 24;
    private static final int MOST_PERMISSIONS = 24;
    private static final int MOST_REQUESTS = 16;
    private static final int PERSONS = 8;
    private static final int PARTS_PER_RECORDING = 4;
    private static final int TRACKS_AT_MOST = 4;
    private static final int SPEEDS_AT_MOST = 3;
    private static final int LAST_DAY = 9999;
    private static final int LONGEST_SIDE = 3600;
    private static final int WORK_OF_A_DAY = 28800;
    private static final int DAYS_UNTIL_DUE = 30;
    private static final int MOST_DAYS_AT_ONCE = 99;
    private static final int MOST_PLAYS = 99;
    private static final int BEST_QUALITY = 100;

    private static final int CARRIER_KIND = 0;
    private static final int CARRIER_SPEED = 1;
    private static final int CARRIER_LAYOUT = 2;
    private static final int CARRIER_LENGTH = 3;
    private static final int CARRIER_PLAYS = 4;
    private static final int CARRIER_PASSES = 5;
    private static final int CARRIER_RECORDINGS = 6;
    private static final int CARRIER_PROPERTIES = 7;

    private static final int MACHINE_KIND = 0;
    private static final int MACHINE_SPEEDS = 1;
    private static final int MACHINE_HEAD = 2;
    private static final int MACHINE_QUALITY = 3;
    private static final int MACHINE_TIME = 4;
    private static final int MACHINE_PASSES = 5;
    private static final int MACHINE_PROPERTIES = 6;

    private static final int RECORDING_CARRIER = 0;
    private static final int RECORDING_TRACKS = 1;
    private static final int RECORDING_FROM = 2;
    private static final int RECORDING_TO = 3;
    private static final int RECORDING_SIDE = 4;
    private static final int RECORDING_PARTS = 5;
    private static final int RECORDING_PROPERTIES = 6;

    private static final int PART_FROM = 0;
    private static final int PART_TO = 1;
    private static final int PART_HOLDER = 2;
    private static final int PART_FREE = 3;
    private static final int PART_PROTECTED = 4;
    private static final int PART_COLUMNS = 4;

    private static final int PASS_CARRIER = 0;
    private static final int PASS_MACHINE = 1;
    private static final int PASS_SPEED = 2;
    private static final int PASS_SIDE = 3;
    private static final int PASS_DAY = 4;
    private static final int PASS_TRACKS = 5;
    private static final int PASS_BACKWARDS = 6;
    private static final int PASS_PROPERTIES = 7;
    private static final int PASS_CAPTURES = 7;
    private static final int PASS_COLUMNS = 11;

    private static final int PERMISSION_HOLDER = 0;
    private static final int PERMISSION_USER = 1;
    private static final int PERMISSION_USE = 2;
    private static final int PERMISSION_UNTIL = 3;
    private static final int PERMISSION_REVOKED = 4;
    private static final int PERMISSION_PROPERTIES = 5;

    private static final int REQUEST_STATE = 0;
    private static final int REQUEST_USER = 1;
    private static final int REQUEST_RECORDING = 2;
    private static final int REQUEST_FROM = 3;
    private static final int REQUEST_TO = 4;
    private static final int REQUEST_USE = 5;
    private static final int REQUEST_QUALITY = 6;
    private static final int REQUEST_DUE = 7;
    private static final int REQUEST_PASS = 8;
    private static final int REQUEST_FEE = 9;
    private static final int REQUEST_PROPERTIES = 10;

    private static final int OPEN = 0;
    private static final int ANSWERED = 1;
    private static final int EXPIRED = 2;
    private static final int WITHDRAWN = 3;

    private static final int PERSON_INCOME = 0;
    private static final int PERSON_PAID = 1;
    private static final int PERSON_COLUMNS = 2;

    private static final int NOT_REFUSED = 0;
    private static final int OTHER_KIND = 1;
    private static final int TOO_FEW_PLAYS = 2;
    private static final int TOO_LITTLE_TIME = 3;
    private static final int NOTHING_CAPTURED = 4;
    private static final int NO_ROOM_FOR_A_PASS = 5;
    private static final int REQUEST_NOT_OPEN = 6;
    private static final int NOT_COVERED = 7;
    private static final int QUALITY_TOO_LOW = 8;
    private static final int RIGHTS_LACKING = 9;

    private static final int PLAN_MACHINE = 0;
    private static final int PLAN_SPEED = 1;
    private static final int PLAN_SIDE = 2;
    private static final int PLAN_QUALITY = 3;
    private static final int PLAN_SECONDS = 4;
    private static final int PLAN_PROPERTIES = 5;

    private final State now;
    private final History history;
    private final Slot firstSlot;
    private final Slot secondSlot;
    private final Text text;
    private final Cover cover;
    private final int[] plan;

    public SoundArchive() {
        now = new State();
        history = new History();
        firstSlot = new Slot();
        secondSlot = new Slot();
        text = new Text();
        cover = new Cover();
        plan = new int[PLAN_PROPERTIES];
    }

    // ---- carriers, machines, recordings, parts

    public int addCarrier(int kind, int speed, int layout, int length, int plays) {
        if (!Kinds.hasLayout(kind, layout) || Kinds.numberOfSpeed(kind, speed) < 0
                || !isWithin(length, 1, LONGEST_SIDE) || !isWithin(plays, 1, MOST_PLAYS)) {
            return BAD_VALUE;
        }
        if (now.carriers.isFull()) {
            return FULL;
        }
        history.keep(now);
        int row = now.carriers.addRow();
        now.carriers.set(row, CARRIER_KIND, kind);
        now.carriers.set(row, CARRIER_SPEED, speed);
        now.carriers.set(row, CARRIER_LAYOUT, layout);
        now.carriers.set(row, CARRIER_LENGTH, length);
        now.carriers.set(row, CARRIER_PLAYS, plays);
        return row;
    }

    public int addMachine(int kind, int speeds, int head, int quality) {
        if (!Kinds.hasLayout(kind, head) || !isWithin(speeds, 1, Kinds.allSpeeds(kind))
                || !isWithin(quality, 1, BEST_QUALITY)) {
            return BAD_VALUE;
        }
        if (now.machines.isFull()) {
            return FULL;
        }
        history.keep(now);
        int row = now.machines.addRow();
        now.machines.set(row, MACHINE_KIND, kind);
        now.machines.set(row, MACHINE_SPEEDS, speeds);
        now.machines.set(row, MACHINE_HEAD, head);
        now.machines.set(row, MACHINE_QUALITY, quality);
        now.machines.set(row, MACHINE_TIME, WORK_OF_A_DAY);
        return row;
    }

    public int addRecording(int carrier, int tracks, int from, int to) {
        if (!now.carriers.has(carrier)) {
            return BAD_INDEX;
        }
        int side = Layouts.sideOfSet(now.carriers.get(carrier, CARRIER_LAYOUT), tracks);
        if (side < 0 || !isStretch(from, to, now.carriers.get(carrier, CARRIER_LENGTH))) {
            return BAD_VALUE;
        }
        if (now.recordings.isFull()) {
            return FULL;
        }
        if (isTaken(carrier, tracks, from, to)) {
            return NOT_POSSIBLE;
        }
        history.keep(now);
        int row = now.recordings.addRow();
        now.recordings.set(row, RECORDING_CARRIER, carrier);
        now.recordings.set(row, RECORDING_TRACKS, tracks);
        now.recordings.set(row, RECORDING_FROM, from);
        now.recordings.set(row, RECORDING_TO, to);
        now.recordings.set(row, RECORDING_SIDE, side);
        now.carriers.add(carrier, CARRIER_RECORDINGS, 1);
        return row;
    }

    public int addPart(int recording, int from, int to, int holder, int free) {
        if (!now.recordings.has(recording)) {
            return BAD_INDEX;
        }
        if (!isStretch(from, to, lengthOfRecording(recording)) || !isPerson(holder)
                || !isWithin(free, 0, LAST_DAY)) {
            return BAD_VALUE;
        }
        int number = now.recordings.get(recording, RECORDING_PARTS);
        if (number >= PARTS_PER_RECORDING) {
            return FULL;
        }
        history.keep(now);
        int row = rowOfPart(recording, number);
        now.parts.set(row, PART_FROM, from);
        now.parts.set(row, PART_TO, to);
        now.parts.set(row, PART_HOLDER, holder);
        now.parts.set(row, PART_FREE, free);
        now.recordings.add(recording, RECORDING_PARTS, 1);
        return number;
    }

    // ---- acts

    public int transfer(int carrier, int machine, int speed, int side) {
        return tryPass(carrier, machine, speed, side, true);
    }

    public int permit(int holder, int user, int use, int until) {
        if (!isPerson(holder) || !isPerson(user) || !isUse(use) || !isWithin(until, 0, LAST_DAY)) {
            return BAD_VALUE;
        }
        if (now.permissions.isFull()) {
            return FULL;
        }
        history.keep(now);
        int row = now.permissions.addRow();
        now.permissions.set(row, PERMISSION_HOLDER, holder);
        now.permissions.set(row, PERMISSION_USER, user);
        now.permissions.set(row, PERMISSION_USE, use);
        now.permissions.set(row, PERMISSION_UNTIL, until);
        return row;
    }

    public int revoke(int permission) {
        if (!now.permissions.has(permission)) {
            return BAD_INDEX;
        }
        if (now.permissions.get(permission, PERMISSION_REVOKED) != 0) {
            return NOT_POSSIBLE;
        }
        history.keep(now);
        now.permissions.set(permission, PERMISSION_REVOKED, 1);
        return now.permissions.countOf(PERMISSION_REVOKED, 0);
    }

    public int request(int user, int recording, int from, int to, int use, int quality) {
        int error = errorOfExcerpt(user, recording, from, to, use);
        if (error != 0) {
            return error;
        }
        if (!isWithin(quality, 1, BEST_QUALITY)) {
            return BAD_VALUE;
        }
        if (now.requests.isFull()) {
            return FULL;
        }
        history.keep(now);
        int row = now.requests.addRow();
        now.requests.set(row, REQUEST_STATE, OPEN);
        now.requests.set(row, REQUEST_USER, user);
        now.requests.set(row, REQUEST_RECORDING, recording);
        now.requests.set(row, REQUEST_FROM, from);
        now.requests.set(row, REQUEST_TO, to);
        now.requests.set(row, REQUEST_USE, use);
        now.requests.set(row, REQUEST_QUALITY, quality);
        now.requests.set(row, REQUEST_DUE, Math.min(now.today + DAYS_UNTIL_DUE, LAST_DAY));
        now.requests.set(row, REQUEST_PASS, NONE);
        return row;
    }

    public int setDue(int request, int day) {
        if (!now.requests.has(request)) {
            return BAD_INDEX;
        }
        if (!isWithin(day, now.today, LAST_DAY)) {
            return BAD_VALUE;
        }
        if (!isOpen(request)) {
            return NOT_POSSIBLE;
        }
        history.keep(now);
        int before = now.requests.get(request, REQUEST_DUE);
        now.requests.set(request, REQUEST_DUE, day);
        return before;
    }

    public int withdraw(int request) {
        if (!now.requests.has(request)) {
            return BAD_INDEX;
        }
        if (!isOpen(request)) {
            return NOT_POSSIBLE;
        }
        history.keep(now);
        now.requests.set(request, REQUEST_STATE, WITHDRAWN);
        return now.requests.countOf(REQUEST_STATE, OPEN);
    }

    public int answer(int request) {
        return tryAnswer(request, true);
    }

    public int passDays(int days) {
        return tryDays(days, true);
    }

    // ---- the text

    public int append(int b) {
        if (!isWithin(b, 32, 126)) {
            return BAD_VALUE;
        }
        return text.put(b) ? text.length : FULL;
    }

    public int clearText() {
        int before = text.length;
        text.length = 0;
        return before;
    }

    public int faultPosition() {
        return text.findFault();
    }

    public int run() {
        if (text.findFault() != NONE) {
            return NOT_POSSIBLE;
        }
        history.keep(now);
        int done = 0;
        int at = 0;
        while (at < text.length) {
            int end = text.readAct(at);
            if (end <= at || carryOut(text.byteAt(at)) < 0) {
                break;
            }
            done++;
            at = end;
        }
        return done;
    }

    // ---- history and slots

    public int undo() {
        if (history.size == 0) {
            return NOT_POSSIBLE;
        }
        history.takeBack(now);
        return history.size;
    }

    public int save(int slot) {
        Slot chosen = slotOf(slot);
        if (chosen == null) {
            return BAD_INDEX;
        }
        chosen.state.copyFrom(now);
        chosen.isFilled = true;
        return now.today;
    }

    public int restore(int slot) {
        Slot chosen = slotOf(slot);
        if (chosen == null) {
            return BAD_INDEX;
        }
        if (!chosen.isFilled) {
            return NOT_POSSIBLE;
        }
        history.keep(now);
        now.copyFrom(chosen.state);
        return now.today;
    }

    // ---- looking

    public int carrier(int carrier, int property) {
        return look(now.carriers, carrier, property, CARRIER_PROPERTIES);
    }

    public int machine(int machine, int property) {
        return look(now.machines, machine, property, MACHINE_PROPERTIES);
    }

    public int recording(int recording, int property) {
        return look(now.recordings, recording, property, RECORDING_PROPERTIES);
    }

    public int part(int recording, int part, int property) {
        if (!now.recordings.has(recording)
                || !isWithin(part, 0, now.recordings.get(recording, RECORDING_PARTS) - 1)) {
            return BAD_INDEX;
        }
        int row = rowOfPart(recording, part);
        if (property == PART_PROTECTED) {
            return isProtected(row) ? 1 : 0;
        }
        return look(now.parts, row, property, PART_COLUMNS);
    }

    public int pass(int pass, int property) {
        return look(now.passes, pass, property, PASS_PROPERTIES);
    }

    public int captured(int pass, int track) {
        if (!now.passes.has(pass) || !hasTrack(now.passes.get(pass, PASS_CARRIER), track)) {
            return BAD_INDEX;
        }
        return now.passes.get(pass, PASS_CAPTURES + track);
    }

    public int quality(int pass, int recording) {
        if (!now.passes.has(pass) || !now.recordings.has(recording)) {
            return BAD_INDEX;
        }
        return qualityInPass(pass, recording);
    }

    public int bestPass(int recording) {
        return now.recordings.has(recording) ? findBestPass(recording) : BAD_INDEX;
    }

    public int permission(int permission, int property) {
        return look(now.permissions, permission, property, PERMISSION_PROPERTIES);
    }

    public int requested(int request, int property) {
        return look(now.requests, request, property, REQUEST_PROPERTIES);
    }

    public int lacking(int user, int recording, int from, int to, int use) {
        int error = errorOfExcerpt(user, recording, from, to, use);
        return error != 0 ? error : partsLacking(user, recording, from, to, use);
    }

    public int fee(int user, int recording, int from, int to, int use) {
        int error = errorOfExcerpt(user, recording, from, to, use);
        return error != 0 ? error : feeOfExcerpt(user, recording, from, to, use);
    }

    public int income(int person) {
        return isPerson(person) ? now.persons.get(person, PERSON_INCOME) : BAD_VALUE;
    }

    public int paid(int person) {
        return isPerson(person) ? now.persons.get(person, PERSON_PAID) : BAD_VALUE;
    }

    public int next(int place) {
        if (place < 0) {
            return BAD_VALUE;
        }
        for (int request = 0; request < now.requests.rows; request++) {
            if (isOpen(request) && openAheadOf(request) == place) {
                return request;
            }
        }
        return NONE;
    }

    public int total(int property) {
        switch (property) {
            case 0: return now.today;
            case 1: return now.carriers.rows;
            case 2: return now.machines.rows;
            case 3: return now.recordings.rows;
            case 4: return now.passes.rows;
            case 5: return now.permissions.rows;
            case 6: return now.requests.rows;
            case 7: return now.requests.countOf(REQUEST_STATE, OPEN);
            case 8: return now.requests.countOf(REQUEST_STATE, ANSWERED);
            case 9: return now.requests.countOf(REQUEST_STATE, EXPIRED);
            case 10: return now.requests.countOf(REQUEST_STATE, WITHDRAWN);
            case 11: return now.reason;
            case 12: return history.size;
            case 13: return text.length;
            default: return BAD_VALUE;
        }
    }

    // ---- planning, which changes nothing

    public int heard(int carrier, int machine, int speed, int side, int track) {
        if (!now.carriers.has(carrier) || !now.machines.has(machine) || !hasTrack(carrier, track)) {
            return BAD_INDEX;
        }
        if (!canPlay(machine, speed) || !isSide(side)) {
            return BAD_VALUE;
        }
        if (!isSameKind(carrier, machine)) {
            return NOT_POSSIBLE;
        }
        return captureNow(carrier, machine, speed, side, track);
    }

    public int duration(int carrier, int speed) {
        if (!now.carriers.has(carrier)) {
            return BAD_INDEX;
        }
        if (Kinds.numberOfSpeed(now.carriers.get(carrier, CARRIER_KIND), speed) < 0) {
            return BAD_VALUE;
        }
        return secondsOfPass(carrier, speed);
    }

    public int planned(int recording, int property) {
        if (!now.recordings.has(recording)) {
            return BAD_INDEX;
        }
        if (!isWithin(property, 0, PLAN_PROPERTIES - 1) || property >= plan.length) {
            return BAD_VALUE;
        }
        return makePlan(recording) ? plan[property] : NONE;
    }

    public int fewestPasses(int carrier, int quality) {
        if (!now.carriers.has(carrier)) {
            return BAD_INDEX;
        }
        if (!isWithin(quality, 1, BEST_QUALITY)) {
            return BAD_VALUE;
        }
        cover.clear();
        for (int recording = 0; recording < now.recordings.rows; recording++) {
            if (now.recordings.get(recording, RECORDING_CARRIER) == carrier) {
                cover.addNeed(now.recordings.get(recording, RECORDING_TRACKS));
            }
        }
        for (int machine = 0; machine < now.machines.rows; machine++) {
            if (isSameKind(carrier, machine)) {
                offerPasses(carrier, machine, quality);
            }
        }
        return cover.findFewest();
    }

    // ---- what the checks ask

    private static boolean isWithin(int value, int low, int high) {
        return value >= low && value <= high;
    }

    private static boolean isPerson(int person) {
        return isWithin(person, 0, PERSONS - 1);
    }

    private static boolean isUse(int use) {
        return isWithin(use, LISTEN, BROADCAST);
    }

    private static boolean isSide(int side) {
        return isWithin(side, 0, 1);
    }

    private static boolean isStretch(int from, int to, int length) {
        return from >= 0 && from < to && to <= length;
    }

    private boolean isOpen(int request) {
        return now.requests.get(request, REQUEST_STATE) == OPEN;
    }

    private boolean isSameKind(int carrier, int machine) {
        return now.carriers.get(carrier, CARRIER_KIND) == now.machines.get(machine, MACHINE_KIND);
    }

    private boolean hasTrack(int carrier, int track) {
        return isWithin(track, 0, Layouts.countTracks(now.carriers.get(carrier, CARRIER_LAYOUT)) - 1);
    }

    private boolean canPlay(int machine, int speed) {
        int number = Kinds.numberOfSpeed(now.machines.get(machine, MACHINE_KIND), speed);
        return number >= 0 && (now.machines.get(machine, MACHINE_SPEEDS) & (1 << number)) != 0;
    }

    private boolean isTaken(int carrier, int tracks, int from, int to) {
        for (int other = 0; other < now.recordings.rows; other++) {
            if (now.recordings.get(other, RECORDING_CARRIER) == carrier
                    && (now.recordings.get(other, RECORDING_TRACKS) & tracks) != 0
                    && from < now.recordings.get(other, RECORDING_TO)
                    && now.recordings.get(other, RECORDING_FROM) < to) {
                return true;
            }
        }
        return false;
    }

    private int errorOfExcerpt(int user, int recording, int from, int to, int use) {
        if (!now.recordings.has(recording)) {
            return BAD_INDEX;
        }
        boolean isGood = isPerson(user) && isStretch(from, to, lengthOfRecording(recording)) && isUse(use);
        return isGood ? 0 : BAD_VALUE;
    }

    private int lengthOfRecording(int recording) {
        return now.recordings.get(recording, RECORDING_TO) - now.recordings.get(recording, RECORDING_FROM);
    }

    private static int look(Table table, int row, int property, int properties) {
        if (!table.has(row)) {
            return BAD_INDEX;
        }
        return isWithin(property, 0, properties - 1) ? table.get(row, property) : BAD_VALUE;
    }

    private Slot slotOf(int slot) {
        switch (slot) {
            case 0: return firstSlot;
            case 1: return secondSlot;
            default: return null;
        }
    }

    // ---- acts, alone or from the text

    /** Only the call itself is recorded; an act of the text is part of the recorded run. */
    private int tryPass(int carrier, int machine, int speed, int side, boolean isRecorded) {
        if (!now.carriers.has(carrier) || !now.machines.has(machine)) {
            return BAD_INDEX;
        }
        if (!canPlay(machine, speed) || !isSide(side)) {
            return BAD_VALUE;
        }
        int reason = refusalOfPass(carrier, machine, speed, side);
        if (reason != NOT_REFUSED) {
            now.reason = reason;
            return REFUSED;
        }
        if (isRecorded) {
            history.keep(now);
        }
        return makePass(carrier, machine, speed, side);
    }

    private int refusalOfPass(int carrier, int machine, int speed, int side) {
        if (!isSameKind(carrier, machine)) {
            return OTHER_KIND;
        }
        if (now.carriers.get(carrier, CARRIER_PLAYS) < playsOfPass(carrier, speed)) {
            return TOO_FEW_PLAYS;
        }
        if (now.machines.get(machine, MACHINE_TIME) < secondsOfPass(carrier, speed)) {
            return TOO_LITTLE_TIME;
        }
        if (tracksHeard(carrier, machine, speed, side, 1) == 0) {
            return NOTHING_CAPTURED;
        }
        return now.passes.isFull() ? NO_ROOM_FOR_A_PASS : NOT_REFUSED;
    }

    private int makePass(int carrier, int machine, int speed, int side) {
        int row = now.passes.addRow();
        int tracks = tracksHeard(carrier, machine, speed, side, 1);
        int ofSide = Layouts.tracksOfSide(now.carriers.get(carrier, CARRIER_LAYOUT), side);
        now.passes.set(row, PASS_CARRIER, carrier);
        now.passes.set(row, PASS_MACHINE, machine);
        now.passes.set(row, PASS_SPEED, speed);
        now.passes.set(row, PASS_SIDE, side);
        now.passes.set(row, PASS_DAY, now.today);
        now.passes.set(row, PASS_TRACKS, tracks);
        now.passes.set(row, PASS_BACKWARDS, tracks & ~ofSide);
        for (int track = 0; track < TRACKS_AT_MOST; track++) {
            now.passes.set(row, PASS_CAPTURES + track, captureNow(carrier, machine, speed, side, track));
        }
        // Only now may the carrier's passes grow: the captures depend on them.
        now.carriers.add(carrier, CARRIER_PASSES, 1);
        now.carriers.add(carrier, CARRIER_PLAYS, -playsOfPass(carrier, speed));
        now.machines.add(machine, MACHINE_PASSES, 1);
        now.machines.add(machine, MACHINE_TIME, -secondsOfPass(carrier, speed));
        now.reason = NOT_REFUSED;
        return row;
    }

    private int tryAnswer(int request, boolean isRecorded) {
        if (!now.requests.has(request)) {
            return BAD_INDEX;
        }
        int reason = refusalOfAnswer(request);
        if (reason != NOT_REFUSED) {
            now.reason = reason;
            return REFUSED;
        }
        if (isRecorded) {
            history.keep(now);
        }
        return giveAnswer(request);
    }

    private int refusalOfAnswer(int request) {
        if (!isOpen(request)) {
            return REQUEST_NOT_OPEN;
        }
        int recording = now.requests.get(request, REQUEST_RECORDING);
        int best = findBestPass(recording);
        if (best < 0) {
            return NOT_COVERED;
        }
        if (qualityInPass(best, recording) < now.requests.get(request, REQUEST_QUALITY)) {
            return QUALITY_TOO_LOW;
        }
        int lacking = partsLacking(now.requests.get(request, REQUEST_USER), recording,
                now.requests.get(request, REQUEST_FROM), now.requests.get(request, REQUEST_TO),
                now.requests.get(request, REQUEST_USE));
        return lacking != 0 ? RIGHTS_LACKING : NOT_REFUSED;
    }

    private int giveAnswer(int request) {
        int user = now.requests.get(request, REQUEST_USER);
        int recording = now.requests.get(request, REQUEST_RECORDING);
        int from = now.requests.get(request, REQUEST_FROM);
        int to = now.requests.get(request, REQUEST_TO);
        int use = now.requests.get(request, REQUEST_USE);
        int best = findBestPass(recording);
        int sum = 0;
        for (int part = 0; part < now.recordings.get(recording, RECORDING_PARTS); part++) {
            int row = rowOfPart(recording, part);
            int amount = feeOfPart(row, user, from, to, use);
            now.persons.add(now.parts.get(row, PART_HOLDER), PERSON_INCOME, amount);
            sum += amount;
        }
        now.persons.add(user, PERSON_PAID, sum);
        now.requests.set(request, REQUEST_STATE, ANSWERED);
        now.requests.set(request, REQUEST_PASS, best);
        now.requests.set(request, REQUEST_FEE, sum);
        now.reason = NOT_REFUSED;
        return best;
    }

    private int tryDays(int days, boolean isRecorded) {
        if (!isWithin(days, 1, MOST_DAYS_AT_ONCE)) {
            return BAD_VALUE;
        }
        if (now.today + days > LAST_DAY) {
            return NOT_POSSIBLE;
        }
        if (isRecorded) {
            history.keep(now);
        }
        now.today += days;
        for (int machine = 0; machine < now.machines.rows; machine++) {
            now.machines.set(machine, MACHINE_TIME, WORK_OF_A_DAY);
        }
        int expired = 0;
        for (int request = 0; request < now.requests.rows; request++) {
            if (isOpen(request) && now.requests.get(request, REQUEST_DUE) < now.today) {
                now.requests.set(request, REQUEST_STATE, EXPIRED);
                expired++;
            }
        }
        return expired;
    }

    private int carryOut(int letter) {
        switch (letter) {
            case 't': return tryPass(text.number(0), text.number(1), text.number(2), text.number(3), false);
            case 'a': return tryAnswer(text.number(0), false);
            case 'd': return tryDays(text.number(0), false);
            default: return NOT_POSSIBLE;
        }
    }

    // ---- passes that are made or could be made

    private int captureNow(int carrier, int machine, int speed, int side, int track) {
        int own = now.carriers.get(carrier, CARRIER_SPEED);
        int strips = Layouts.stripsOfTrack(now.carriers.get(carrier, CARRIER_LAYOUT), track);
        int read = Layouts.mostRead(now.machines.get(machine, MACHINE_HEAD), side, strips);
        int divisor = Integer.bitCount(strips) * Math.max(speed, own);
        if (divisor <= 0) {
            return 0;
        }
        int fresh = now.machines.get(machine, MACHINE_QUALITY) * read * Math.min(speed, own) / divisor;
        return Math.max(0, fresh - now.carriers.get(carrier, CARRIER_PASSES));
    }

    private int tracksHeard(int carrier, int machine, int speed, int side, int least) {
        int tracks = 0;
        for (int track = 0; track < TRACKS_AT_MOST; track++) {
            if (captureNow(carrier, machine, speed, side, track) >= least) {
                tracks |= 1 << track;
            }
        }
        return tracks;
    }

    private int playsOfPass(int carrier, int speed) {
        return speed > now.carriers.get(carrier, CARRIER_SPEED) ? 2 : 1;
    }

    private int secondsOfPass(int carrier, int speed) {
        if (speed <= 0) {
            return 0;
        }
        int way = now.carriers.get(carrier, CARRIER_LENGTH) * now.carriers.get(carrier, CARRIER_SPEED);
        return (way + speed - 1) / speed;
    }

    private int qualityInPass(int pass, int recording) {
        if (now.passes.get(pass, PASS_CARRIER) != now.recordings.get(recording, RECORDING_CARRIER)) {
            return 0;
        }
        int tracks = now.recordings.get(recording, RECORDING_TRACKS);
        int least = BEST_QUALITY;
        for (int track = 0; track < TRACKS_AT_MOST; track++) {
            if ((tracks & (1 << track)) != 0) {
                least = Math.min(least, now.passes.get(pass, PASS_CAPTURES + track));
            }
        }
        return least;
    }

    private int qualityNow(int recording, int machine, int speed, int side) {
        int carrier = now.recordings.get(recording, RECORDING_CARRIER);
        int tracks = now.recordings.get(recording, RECORDING_TRACKS);
        int least = BEST_QUALITY;
        for (int track = 0; track < TRACKS_AT_MOST; track++) {
            if ((tracks & (1 << track)) != 0) {
                least = Math.min(least, captureNow(carrier, machine, speed, side, track));
            }
        }
        return least;
    }

    private int findBestPass(int recording) {
        int best = NONE;
        int greatest = 0;
        for (int pass = 0; pass < now.passes.rows; pass++) {
            int quality = qualityInPass(pass, recording);
            if (quality > greatest) {
                greatest = quality;
                best = pass;
            }
        }
        return best;
    }

    /** Tries the passes in the order in which the document prefers them among equals. */
    private boolean makePlan(int recording) {
        boolean isFound = false;
        for (int machine = 0; machine < now.machines.rows; machine++) {
            for (int k = 0; k < SPEEDS_AT_MOST; k++) {
                int speed = Kinds.speedOf(now.machines.get(machine, MACHINE_KIND), k);
                for (int side = 0; side <= 1; side++) {
                    if (canPlan(recording, machine, speed) && improvePlan(isFound, recording, machine, speed, side)) {
                        isFound = true;
                    }
                }
            }
        }
        return isFound;
    }

    private boolean canPlan(int recording, int machine, int speed) {
        int carrier = now.recordings.get(recording, RECORDING_CARRIER);
        return canPlay(machine, speed) && isSameKind(carrier, machine)
                && now.carriers.get(carrier, CARRIER_PLAYS) >= playsOfPass(carrier, speed);
    }

    private boolean improvePlan(boolean isFound, int recording, int machine, int speed, int side) {
        int quality = qualityNow(recording, machine, speed, side);
        int seconds = secondsOfPass(now.recordings.get(recording, RECORDING_CARRIER), speed);
        if (quality == 0 || plan.length < PLAN_PROPERTIES) {
            return false;
        }
        if (isFound && (quality < plan[PLAN_QUALITY]
                || quality == plan[PLAN_QUALITY] && seconds >= plan[PLAN_SECONDS])) {
            return false;
        }
        plan[PLAN_MACHINE] = machine;
        plan[PLAN_SPEED] = speed;
        plan[PLAN_SIDE] = side;
        plan[PLAN_QUALITY] = quality;
        plan[PLAN_SECONDS] = seconds;
        return true;
    }

    private void offerPasses(int carrier, int machine, int quality) {
        for (int k = 0; k < SPEEDS_AT_MOST; k++) {
            int speed = Kinds.speedOf(now.machines.get(machine, MACHINE_KIND), k);
            if (canPlay(machine, speed)) {
                cover.addOffer(tracksHeard(carrier, machine, speed, 0, quality));
                cover.addOffer(tracksHeard(carrier, machine, speed, 1, quality));
            }
        }
    }

    // ---- rights

    private static int rowOfPart(int recording, int part) {
        return recording * PARTS_PER_RECORDING + part;
    }

    private boolean isProtected(int row) {
        return now.today < now.parts.get(row, PART_FREE);
    }

    /** The seconds that a part takes of the excerpt; both rights and fees ask for them. */
    private int boundSeconds(int row, int user, int from, int to) {
        if (!isProtected(row) || now.parts.get(row, PART_HOLDER) == user) {
            return 0;
        }
        int start = Math.max(from, now.parts.get(row, PART_FROM));
        int end = Math.min(to, now.parts.get(row, PART_TO));
        return Math.max(0, end - start);
    }

    private boolean isPermitted(int holder, int user, int use) {
        for (int row = 0; row < now.permissions.rows; row++) {
            if (now.permissions.get(row, PERMISSION_REVOKED) == 0
                    && now.permissions.get(row, PERMISSION_HOLDER) == holder
                    && now.permissions.get(row, PERMISSION_USER) == user
                    && now.permissions.get(row, PERMISSION_USE) >= use
                    && now.permissions.get(row, PERMISSION_UNTIL) >= now.today) {
                return true;
            }
        }
        return false;
    }

    private int partsLacking(int user, int recording, int from, int to, int use) {
        int set = 0;
        for (int part = 0; part < now.recordings.get(recording, RECORDING_PARTS); part++) {
            int row = rowOfPart(recording, part);
            if (boundSeconds(row, user, from, to) > 0 && !isPermitted(now.parts.get(row, PART_HOLDER), user, use)) {
                set |= 1 << part;
            }
        }
        return set;
    }

    private static int priceOfSecond(int use) {
        switch (use) {
            case COPY: return 1;
            case BROADCAST: return 3;
            default: return 0;
        }
    }

    private int feeOfPart(int row, int user, int from, int to, int use) {
        return boundSeconds(row, user, from, to) * priceOfSecond(use);
    }

    private int feeOfExcerpt(int user, int recording, int from, int to, int use) {
        int sum = 0;
        for (int part = 0; part < now.recordings.get(recording, RECORDING_PARTS); part++) {
            sum += feeOfPart(rowOfPart(recording, part), user, from, to, use);
        }
        return sum;
    }

    // ---- the order of the open requests

    private int openAheadOf(int request) {
        int ahead = 0;
        for (int other = 0; other < now.requests.rows; other++) {
            if (isOpen(other) && comesBefore(other, request)) {
                ahead++;
            }
        }
        return ahead;
    }

    private boolean comesBefore(int one, int other) {
        int due = now.requests.get(one, REQUEST_DUE) - now.requests.get(other, REQUEST_DUE);
        if (due != 0) {
            return due < 0;
        }
        int use = now.requests.get(one, REQUEST_USE) - now.requests.get(other, REQUEST_USE);
        if (use != 0) {
            return use > 0;
        }
        int quality = now.requests.get(one, REQUEST_QUALITY) - now.requests.get(other, REQUEST_QUALITY);
        return quality != 0 ? quality > 0 : one < other;
    }

    // ---- classes inside

    /** The speeds and layouts that the kinds of carriers have. */
    private static final class Kinds {
        private static final int[] SPEEDS = {33, 45, 78, 95, 190, 380, 48, 0, 0};

        private static int speedOf(int kind, int number) {
            if (kind < DISC || kind > CASSETTE || number < 0 || number >= SPEEDS_AT_MOST) {
                return 0;
            }
            int at = kind * SPEEDS_AT_MOST + number;
            return at >= 0 && at < SPEEDS.length ? SPEEDS[at] : 0;
        }

        private static int numberOfSpeed(int kind, int speed) {
            for (int number = 0; number < SPEEDS_AT_MOST; number++) {
                // A kind with fewer speeds has 0 in place of the others.
                if (speed > 0 && speedOf(kind, number) == speed) {
                    return number;
                }
            }
            return -1;
        }

        private static int allSpeeds(int kind) {
            return kind == CASSETTE ? 1 : 7;
        }

        private static boolean hasLayout(int kind, int layout) {
            switch (kind) {
                case DISC:
                case CASSETTE:
                    return layout == HALF_TRACK || layout == PAIRED_TRACK;
                case REEL:
                    return layout == FULL_TRACK || layout == HALF_TRACK || layout == QUARTER_TRACK;
                default:
                    return false;
            }
        }
    }

    /** How the layouts divide the four strips among tracks and sides; sets are bit masks. */
    private static final class Layouts {
        private static final int[] STRIPS = {15, 0, 0, 0, 3, 12, 0, 0, 1, 2, 4, 8, 1, 2, 4, 8};

        private static int countTracks(int layout) {
            switch (layout) {
                case FULL_TRACK: return 1;
                case HALF_TRACK: return 2;
                case QUARTER_TRACK:
                case PAIRED_TRACK:
                    return 4;
                default: return 0;
            }
        }

        private static int stripsOfTrack(int layout, int track) {
            if (layout < FULL_TRACK || layout > PAIRED_TRACK || track < 0 || track >= TRACKS_AT_MOST) {
                return 0;
            }
            int at = layout * TRACKS_AT_MOST + track;
            return at >= 0 && at < STRIPS.length ? STRIPS[at] : 0;
        }

        private static int tracksOfSide(int layout, int side) {
            switch (layout) {
                case FULL_TRACK: return side == 0 ? 1 : 0;
                case HALF_TRACK: return side == 0 ? 1 : 2;
                case QUARTER_TRACK: return side == 0 ? 5 : 10;
                case PAIRED_TRACK: return side == 0 ? 3 : 12;
                default: return 0;
            }
        }

        /** The side on which all tracks of a set are, or -1 if it is no such set. */
        private static int sideOfSet(int layout, int tracks) {
            if (tracks == 0) {
                return -1;
            }
            if ((tracks & ~tracksOfSide(layout, 0)) == 0) {
                return 0;
            }
            return (tracks & ~tracksOfSide(layout, 1)) == 0 ? 1 : -1;
        }

        /** The most strips that a track of the head reads within the given strips. */
        private static int mostRead(int head, int side, int strips) {
            int most = 0;
            int reading = tracksOfSide(head, 0);
            for (int track = 0; track < TRACKS_AT_MOST; track++) {
                int own = stripsOfTrack(head, track);
                int read = side == 0 ? own : mirrored(own);
                if ((reading & (1 << track)) != 0 && (read & ~strips) == 0) {
                    most = Math.max(most, Integer.bitCount(read));
                }
            }
            return most;
        }

        private static int mirrored(int strips) {
            return (strips & 1) << 3 | (strips & 2) << 1 | (strips & 4) >> 1 | (strips & 8) >> 3;
        }
    }

    /** Rows of numbers; a cell that is not there reads as 0 and takes nothing. */
    private static final class Table {
        private final int[] cells;
        private final int columns;
        private int rows;

        private Table(int capacity, int columns) {
            cells = new int[Math.max(0, capacity * columns)];
            this.columns = columns;
        }

        private boolean has(int row) {
            return row >= 0 && row < rows;
        }

        private boolean isFull() {
            return (rows + 1) * columns > cells.length;
        }

        /** Rows beyond the last one hold zeros, as undoing puts back whole tables. */
        private int addRow() {
            if (!isFull()) {
                rows++;
            }
            return rows - 1;
        }

        private int get(int row, int column) {
            if (row < 0 || row >= rows || column < 0 || column >= columns) {
                return 0;
            }
            int place = row * columns + column;
            return place >= 0 && place < cells.length ? cells[place] : 0;
        }

        private void set(int row, int column, int value) {
            if (row < 0 || row >= rows || column < 0 || column >= columns) {
                return;
            }
            int place = row * columns + column;
            if (place >= 0 && place < cells.length) {
                cells[place] = value;
            }
        }

        private void add(int row, int column, int amount) {
            set(row, column, get(row, column) + amount);
        }

        private int countOf(int column, int value) {
            int count = 0;
            for (int row = 0; row < rows; row++) {
                if (get(row, column) == value) {
                    count++;
                }
            }
            return count;
        }

        private void copyFrom(Table other) {
            System.arraycopy(other.cells, 0, cells, 0, Math.min(cells.length, other.cells.length));
            rows = other.rows;
        }
    }

    /** All but the text, the history and the slots. */
    private static final class State {
        private final Table carriers = new Table(MOST_CARRIERS, CARRIER_PROPERTIES);
        private final Table machines = new Table(MOST_MACHINES, MACHINE_PROPERTIES);
        private final Table recordings = new Table(MOST_RECORDINGS, RECORDING_PROPERTIES);
        private final Table parts = new Table(MOST_RECORDINGS * PARTS_PER_RECORDING, PART_COLUMNS);
        private final Table passes = new Table(MOST_PASSES, PASS_COLUMNS);
        private final Table permissions = new Table(MOST_PERMISSIONS, PERMISSION_PROPERTIES);
        private final Table requests = new Table(MOST_REQUESTS, REQUEST_PROPERTIES);
        private final Table persons = new Table(PERSONS, PERSON_COLUMNS);
        private int today;
        private int reason;

        private State() {
            // Parts and persons have fixed rows; how many parts count is told by the recording.
            parts.rows = MOST_RECORDINGS * PARTS_PER_RECORDING;
            persons.rows = PERSONS;
        }

        private void copyFrom(State other) {
            carriers.copyFrom(other.carriers);
            machines.copyFrom(other.machines);
            recordings.copyFrom(other.recordings);
            parts.copyFrom(other.parts);
            passes.copyFrom(other.passes);
            permissions.copyFrom(other.permissions);
            requests.copyFrom(other.requests);
            persons.copyFrom(other.persons);
            today = other.today;
            reason = other.reason;
        }
    }

    /** A place in which a state can be kept. */
    private static final class Slot {
        private final State state = new State();
        private boolean isFilled;
    }

    /** The latest states, in a ring of states that are used again. */
    private static final class History {
        private static final int LIMIT = 5;
        private final State[] states;
        private int end;
        private int size;

        private History() {
            states = new State[LIMIT];
            for (int i = 0; i < states.length; i++) {
                states[i] = new State();
            }
        }

        private State stateAt(int place) {
            return place >= 0 && place < states.length ? states[place] : null;
        }

        private void keep(State state) {
            State oldest = stateAt(end);
            if (oldest != null) {
                oldest.copyFrom(state);
            }
            end = end + 1 < LIMIT ? end + 1 : 0;
            size = Math.min(size + 1, LIMIT);
        }

        private void takeBack(State into) {
            end = end > 0 ? end - 1 : LIMIT - 1;
            size = Math.max(size - 1, 0);
            State latest = stateAt(end);
            if (latest != null) {
                into.copyFrom(latest);
            }
        }
    }

    /** The text and its reading; readers hand on a fault as a negative number, -1 less its position. */
    private static final class Text {
        private static final int LIMIT = 80;
        private final int[] bytes = new int[LIMIT];
        private final int[] numbers = new int[4];
        private int length;

        private boolean put(int b) {
            if (length < 0 || length >= bytes.length) {
                return false;
            }
            bytes[length] = b;
            length++;
            return true;
        }

        private int byteAt(int at) {
            return at >= 0 && at < length && at < bytes.length ? bytes[at] : -1;
        }

        private int number(int place) {
            return place >= 0 && place < numbers.length ? numbers[place] : 0;
        }

        private static int faultAt(int at) {
            return -1 - at;
        }

        private int findFault() {
            int at = 0;
            while (at < length) {
                int end = readAct(at);
                if (end <= at) {
                    return -1 - end;
                }
                at = end;
            }
            return NONE;
        }

        /** Reads one act, whose numbers are kept, and answers where it ends. */
        private int readAct(int at) {
            switch (byteAt(at)) {
                case 't':
                    int machine = readNumber(readNumber(at, 't', 0, 0, 7), 'm', 1, 0, 3);
                    return readEnd(readNumber(readNumber(machine, 'v', 2, 1, 380), 's', 3, 0, 1));
                case 'a':
                    return readEnd(readNumber(at, 'a', 0, 0, 15));
                case 'd':
                    return readEnd(readNumber(at, 'd', 0, 1, MOST_DAYS_AT_ONCE));
                default:
                    return faultAt(at);
            }
        }

        private int readEnd(int at) {
            if (at < 0) {
                return at;
            }
            return byteAt(at) == ';' ? at + 1 : faultAt(at);
        }

        private int readNumber(int at, int letter, int place, int low, int high) {
            if (at < 0) {
                return at;
            }
            if (byteAt(at) != letter) {
                return faultAt(at);
            }
            int first = at + 1;
            int end = endOfDigits(first);
            int value = valueOfDigits(first, end);
            if (end == first || value < low || value > high) {
                return faultAt(first);
            }
            if (place >= 0 && place < numbers.length) {
                numbers[place] = value;
            }
            return end;
        }

        private int endOfDigits(int first) {
            if (byteAt(first) == '0') {
                return first + 1;
            }
            int end = first;
            while (end < first + 3 && byteAt(end) >= '0' && byteAt(end) <= '9') {
                end++;
            }
            return end;
        }

        private int valueOfDigits(int first, int end) {
            int value = 0;
            for (int at = first; at < end; at++) {
                value = value * 10 + byteAt(at) - '0';
            }
            return value;
        }
    }

    /** Serves sets of tracks that are needed with the fewest of the sets that passes offer. */
    private static final class Cover {
        // Two sides with two tracks at most make three different sets each.
        private static final int NEEDS_LIMIT = 6;
        private static final int OFFERS_LIMIT = 24;
        private final int[] needs = new int[NEEDS_LIMIT];
        private final int[] offers = new int[OFFERS_LIMIT];
        private final int[] fewest = new int[1 << NEEDS_LIMIT];
        private int needCount;
        private int offerCount;

        private void clear() {
            needCount = 0;
            offerCount = 0;
        }

        private void addNeed(int tracks) {
            for (int i = 0; i < needCount && i < needs.length; i++) {
                if (needs[i] == tracks) {
                    return;
                }
            }
            if (needCount >= 0 && needCount < needs.length) {
                needs[needCount] = tracks;
                needCount++;
            }
        }

        /** Keeps an offer as the set of the needs that it serves; all needs are added before. */
        private void addOffer(int tracks) {
            int served = 0;
            for (int i = 0; i < needCount && i < needs.length; i++) {
                if ((needs[i] & ~tracks) == 0) {
                    served |= 1 << i;
                }
            }
            for (int i = 0; i < offerCount && i < offers.length; i++) {
                if (offers[i] == served) {
                    return;
                }
            }
            if (served != 0 && offerCount >= 0 && offerCount < offers.length) {
                offers[offerCount] = served;
                offerCount++;
            }
        }

        /** Serving a set takes one offer more than what that offer leaves of it, a smaller set. */
        private int findFewest() {
            int sets = Math.min(1 << needCount, fewest.length);
            for (int set = 0; set < sets; set++) {
                fewest[set] = set == 0 ? 0 : fewestFor(set);
            }
            return sets > 0 ? fewest[sets - 1] : NONE;
        }

        private int fewestFor(int set) {
            int best = NONE;
            for (int i = 0; i < offerCount && i < offers.length; i++) {
                int rest = set & ~offers[i];
                if (rest >= 0 && rest < set && rest < fewest.length && fewest[rest] >= 0
                        && (best == NONE || fewest[rest] + 1 < best)) {
                    best = fewest[rest] + 1;
                }
            }
            return best;
        }
    }
}
