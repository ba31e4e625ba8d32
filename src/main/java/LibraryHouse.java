import java.util.Arrays;

/**
 * A whole library on a disk whose power may go at any byte.
 *
 * <p>Every call that changes the house is an ACT. ACTS are kept in a journal, with their texts, and
 * what a lost SYNC or a DEED that is not kept leaves is found again by doing the ACTS that are left
 * once more from an empty house. So no part may look at anything that is not made by ACTS.
 */
public final class LibraryHouse {
    public static final int NONE = -1;
    public static final int RANGE = -2;
    public static final int STATE = -3;
    public static final int FULL = -4;

    private static final int WRONG = -1000;
    private static final int NOT_TO_BE_HAD = -11;
    private static final int NOT_BY_RULE = -12;
    private static final int TOO_MANY = -13;
    private static final int BARRED = -14;
    private static final int WAITED_FOR = -15;
    private static final int RENEWED_OUT = -16;
    private static final int BOOKED = -17;
    private static final int NO_READER = -1000000;
    private static final int NO_SUM = -1000001;

    private static final int LAST_DAY = 50000;
    /** A day behind all that can be reckoned. */
    private static final int FAR = 1000000000;
    private static final int CALLS = 512;
    private static final int ENTRY = 6;
    private static final int FEED_BYTES = 20;
    private static final int TAPE_BYTES = 2000;
    /** An object is used for 512 calls, and no call brings more than 20 bytes. */
    private static final int TEXT_BYTES = CALLS * FEED_BYTES;

    private static final int ROW_BYTES = 40;
    /** A ROW is told by one number: where its bytes begin, times 64, and how many there are. */
    private static final int ROW_SHIFT = 6;
    private static final int ROW_MASK = 63;

    private static final int RECORDS = 150;
    private static final int VERSIONS = 400;
    private static final int FIELDS = 12;
    private static final int SUBFIELDS = 5;
    private static final int FIRST_DATA_TAG = 10;
    private static final int STEPS = 8;
    /** In the midst of a batch a record may have more than it may have at its end. */
    private static final int DRAFT_FIELDS = FIELDS + STEPS;
    private static final int DRAFT_SUBFIELDS = SUBFIELDS + STEPS;

    private static final int HEADINGS = 80;
    private static final int NAMES = 240;
    private static final int LINKS = 300;
    private static final int TERMS = 20;
    private static final int PHRASE_WORDS = 4;
    private static final int WORD_BYTES = 12;
    private static final int BRACKETS = 8;
    private static final int AND = -1;
    private static final int OR = -2;
    private static final int NOT = -3;
    private static final int OPENED = -4;

    private static final int READERS = 60;
    private static final int COPIES = 200;
    private static final int LOANS = 600;
    private static final int QUEUED = 200;
    private static final int BOOKINGS = 100;
    private static final int PLACES = 4;
    private static final int KINDS = 5;
    private static final int CLOSED_DAYS = 60;
    private static final int SHELF_DAYS = 7;
    private static final int SLOW_DAYS = 14;
    private static final int BAR_CENTS = 1000;

    private static final int IS_IN = 0;
    private static final int IS_LENT = 1;
    private static final int IS_ON_SHELF = 2;
    private static final int IS_AWAY = 3;
    private static final int IS_UNDER_WAY = 4;

    private static final int SERIALS = 20;
    private static final int ISSUES = 300;
    private static final int FUNDS = 20;
    private static final int ORDERS = 150;
    private static final int MOST_CENTS = 1000000;
    private static final int PACKAGES = 30;
    private static final int PACKAGE_BYTES = 200;
    private static final int STORES = 6;
    private static final int PACKAGE_COPIES = 3;
    private static final int TOKENS = 10;

    // The calls that make ACTS, as the journal has them; those from FIRST_TEXT on read a TEXT.
    private static final int TICK = 0;
    private static final int DROP = 1;
    private static final int BROADER = 2;
    private static final int LINK = 3;
    private static final int READER = 4;
    private static final int COPY = 5;
    private static final int AWAY = 6;
    private static final int CLOSED = 7;
    private static final int LEND = 8;
    private static final int RENEW = 9;
    private static final int BACK = 10;
    private static final int HOLD = 11;
    private static final int UNHOLD = 12;
    private static final int PAY = 13;
    private static final int CAME = 14;
    private static final int FUND = 15;
    private static final int ORDER = 16;
    private static final int INVOICE = 17;
    private static final int CANCEL = 18;
    private static final int TRANSFER = 19;
    private static final int ANSWERS = 20;
    private static final int ALTER = 21;
    private static final int LOSE = 22;
    private static final int MEND = 23;
    private static final int HOME = 24;
    private static final int PICKUP = 25;
    private static final int BRING = 26;
    private static final int BOOK = 27;
    private static final int UNBOOK = 28;
    private static final int STRICT = 29;
    private static final int FREEZE = 30;
    private static final int DISPOSE = 31;
    private static final int FIRST_TEXT = 32;
    private static final int RECORD = 32;
    private static final int EDIT = 33;
    private static final int HEADING = 34;
    private static final int RENAME = 35;
    private static final int RULES = 36;
    private static final int SERIAL = 37;
    private static final int PACK = 38;
    private static final int ROUTES = 39;
    private static final int MARK = 40;
    private static final int CHECKS = 41;
    private static final int BATCH = 42;
    private static final int RETENTION = 43;
    private static final int EXCHANGE = 44;

    private final Tape tape = new Tape();
    private final Catalog catalog = new Catalog();
    private final Authority authority = new Authority();
    private final RuleBook rules = new RuleBook(tape);
    private final Readers readers = new Readers();
    private final Lending lending = new Lending(catalog, rules, readers);
    private final Buying buying = new Buying();
    private final Stores stores = new Stores();
    private final Question question = new Question(tape, authority);
    private final Desk desk = new Desk(tape);
    /** The record at hand: one that is read, or a PRINT, or one that a batch works on. */
    private final Draft work = new Draft();

    /** Of each ACT the call, its four arguments and how many bytes its text has. */
    private final int[] journal = new int[CALLS * ENTRY];
    private int acts;
    private int laid;
    private int laidBeforeSync;
    private boolean synced;
    private int deedFrom = NONE;

    /** The MESSAGE that was KEPT latest, told as a ROW is, or 0; and what was told of it. */
    private int keptMessage;
    private int keptAnswer;

    /** An empty house on an empty disk. */
    public LibraryHouse() {
    }

    // ---- the tape, days

    public int feed(int a, int b, int c, int d, int e) {
        if (!tape.hasRoom()) {
            return FULL;
        }
        tape.put(a);
        tape.put(b);
        tape.put(c);
        tape.put(d);
        tape.put(e);
        return tape.fed;
    }

    public int end(int n) {
        if (n < 0 || n > tape.fed) {
            return NONE;
        }
        tape.fed = n;
        return n;
    }

    public int tick(int day) {
        return act(TICK, day, 0, 0, 0);
    }

    // ---- records

    public int record() {
        return act(RECORD, 0, 0, 0, 0);
    }

    public int edit(int record) {
        return act(EDIT, record, 0, 0, 0);
    }

    public int drop(int record) {
        return act(DROP, record, 0, 0, 0);
    }

    public int print(int record, int form, int day) {
        int version = catalog.versionOn(record, day);
        if (version == NONE) {
            return NONE;
        }
        if (form < 0 || form > 1 || day > rules.today) {
            return RANGE;
        }
        layPrint(version, day);
        desk.pageLength = 0;
        if (form == 0) {
            desk.writeText(work);
        } else {
            desk.writeExchange(work);
        }
        return desk.pageLength;
    }

    public int printed(int i) {
        return i >= 0 && i < desk.pageLength ? desk.page[i] & 255 : NONE;
    }

    // ---- headings

    public int heading() {
        return act(HEADING, 0, 0, 0, 0);
    }

    public int rename(int heading) {
        return act(RENAME, heading, 0, 0, 0);
    }

    public int broader(int heading, int other) {
        return act(BROADER, heading, other, 0, 0);
    }

    public int link(int record, int field, int heading) {
        return act(LINK, record, field, heading, 0);
    }

    // ---- questions

    public int find() {
        tape.openText(tape.kept, tape.fed);
        tape.fed = 0;
        question.readQuestion();
        tape.takeEnd();
        if (!tape.isRight()) {
            return tape.refusal();
        }
        searchAll();
        return desk.foundCount;
    }

    public int hit(int i) {
        return i >= 0 && i < desk.foundCount ? desk.found[i] : NONE;
    }

    public int value(int tag, int i, int k) {
        desk.values = 0;
        for (int f = 0; f < desk.foundCount; f++) {
            int record = desk.found[f];
            if (catalog.isThere(record)) {
                layPrint(catalog.last[record], rules.today);
                desk.addValues(work, tag, record);
            }
        }
        int told = desk.valueOfRank(i);
        if (told == NONE) {
            return NONE;
        }
        return k == -1 ? desk.valueRecords[told] : tape.rowByte(desk.valueRow[told], k);
    }

    // ---- lending

    public int reader(int kind) {
        return act(READER, kind, 0, 0, 0);
    }

    public int copy(int record, int type) {
        return act(COPY, record, type, 0, 0);
    }

    public int away(int copy) {
        return act(AWAY, copy, 0, 0, 0);
    }

    public int rules() {
        return act(RULES, 0, 0, 0, 0);
    }

    public int closed(int day) {
        return act(CLOSED, day, 0, 0, 0);
    }

    public int lend(int reader, int copy) {
        return act(LEND, reader, copy, 0, 0);
    }

    public int renew(int loan) {
        return act(RENEW, loan, 0, 0, 0);
    }

    public int back(int copy) {
        return act(BACK, copy, 0, 0, 0);
    }

    public int hold(int reader, int record, int rank) {
        return act(HOLD, reader, record, rank, 0);
    }

    public int unhold(int reader, int record) {
        return act(UNHOLD, reader, record, 0, 0);
    }

    public int pay(int reader, int cents) {
        int answer = act(PAY, reader, cents, 0, 0);
        if (answer == RANGE) {
            return NO_SUM;
        }
        return readers.has(reader) ? readers.owed[reader] : NO_READER;
    }

    public int state(int copy, int what) {
        return lending.tellState(copy, what);
    }

    public int queue(int record, int i) {
        return lending.queuedReader(record, i);
    }

    public int owes(int reader) {
        return readers.has(reader) ? readers.owed[reader] : NO_READER;
    }

    // ---- serials

    public int serial(int record) {
        return act(SERIAL, record, 0, 0, 0);
    }

    public int issue(int serial, int i, int what) {
        return buying.tellIssue(serial, i, what);
    }

    public int came(int serial, int i) {
        return act(CAME, serial, i, 0, 0);
    }

    public int claim(int i) {
        return buying.claimOfRank(i, rules.today);
    }

    // ---- funds

    public int fund(int cents) {
        return act(FUND, cents, 0, 0, 0);
    }

    public int order(int fund, int cents) {
        return act(ORDER, fund, cents, 0, 0);
    }

    public int invoice(int order, int cents) {
        return act(INVOICE, order, cents, 0, 0);
    }

    public int cancel(int order) {
        return act(CANCEL, order, 0, 0, 0);
    }

    public int transfer(int fund, int other, int cents) {
        return act(TRANSFER, fund, other, cents, 0);
    }

    public int money(int fund, int what) {
        return buying.tellMoney(fund, what);
    }

    // ---- packages

    public int pack() {
        return act(PACK, 0, 0, 0, 0);
    }

    public int answers(int store, boolean on) {
        return act(ANSWERS, store, on ? 1 : 0, 0, 0);
    }

    public int alter(int pack, int store, int i, int b) {
        return act(ALTER, pack, store, i, b);
    }

    public int lose(int pack, int store) {
        return act(LOSE, pack, store, 0, 0);
    }

    public int mend(int pack) {
        return act(MEND, pack, 0, 0, 0);
    }

    public int octet(int pack, int i) {
        return stores.octetOf(pack, i);
    }

    public int load(int store) {
        return store >= 0 && store < STORES ? stores.copiesOn(store) : NONE;
    }

    // ---- harvests

    public int harvest(int from, int to) {
        return desk.openToken(from, to);
    }

    public int next(int token) {
        return desk.nextChanged(token, catalog);
    }

    // ---- the disk

    public int sync() {
        int ready = deedFrom == NONE ? acts : deedFrom;
        laidBeforeSync = laid;
        laid = ready;
        synced = true;
        return laid - laidBeforeSync;
    }

    public int power(int share) {
        if (share < 0 || share > 1000) {
            return RANGE;
        }
        if (synced && share < 1000) {
            laid = laidBeforeSync;
        }
        synced = false;
        deedFrom = NONE;
        rewind(laid);
        return acts;
    }

    public int count(int what) {
        switch (what) {
            case 0: return acts;
            case 1: return laid;
            case 2: return rules.today;
            case 3: return catalog.records;
            case 4: return catalog.versions;
            case 5: return authority.headings;
            case 6: return readers.readers;
            case 7: return lending.copies;
            case 8: return readers.loans;
            case 9: return lending.queued;
            case 10: return buying.orders;
            case 11: return stores.packages;
            default: return NONE;
        }
    }

    public int broken(int what) {
        switch (what) {
            case 0: return lending.wronglyLent();
            case 1: return lending.wronglyIn();
            case 2: return buying.overspentFunds();
            case 3: return authority.ringedHeadings();
            case 4: return lending.wronglyQueued();
            default: return NONE;
        }
    }

    // ---- places, routes

    public int home(int copy, int place) {
        return act(HOME, copy, place, 0, 0);
    }

    public int pickup(int reader, int place) {
        return act(PICKUP, reader, place, 0, 0);
    }

    public int routes() {
        return act(ROUTES, 0, 0, 0, 0);
    }

    public int bring(int copy, int place) {
        return act(BRING, copy, place, 0, 0);
    }

    public int where(int copy, int what) {
        return lending.tellPlace(copy, what);
    }

    // ---- bookings, shelves

    public int book(int reader, int copy, int from, int to) {
        return act(BOOK, reader, copy, from, to);
    }

    public int unbook(int booking) {
        return act(UNBOOK, booking, 0, 0, 0);
    }

    public int mark(int copy) {
        return act(MARK, copy, 0, 0, 0);
    }

    public int shelf(int place, int i) {
        return lending.shelved(place, i);
    }

    // ---- rules for records, batches

    public int checks() {
        return act(CHECKS, 0, 0, 0, 0);
    }

    public int strict(boolean on) {
        return act(STRICT, on ? 1 : 0, 0, 0, 0);
    }

    public int broke(int record, int i) {
        if (!catalog.isThere(record) || i < 0) {
            return NONE;
        }
        catalog.copyTo(work, catalog.last[record]);
        int ahead = 0;
        for (int rule = 0; rule < rules.lines[RuleBook.CHECK]; rule++) {
            if (rules.isBroken(rule, work)) {
                if (ahead == i) {
                    return rule;
                }
                ahead++;
            }
        }
        return NONE;
    }

    public int batch() {
        return act(BATCH, 0, 0, 0, 0);
    }

    public int result(int i) {
        return i >= 0 && i < desk.outcomes ? desk.outcome[i] : NONE;
    }

    // ---- retention

    public int retention() {
        return act(RETENTION, 0, 0, 0, 0);
    }

    public int freeze(int record, boolean on) {
        return act(FREEZE, record, on ? 1 : 0, 0, 0);
    }

    public int due(int i) {
        int ahead = 0;
        for (int record = 1; record <= catalog.records; record++) {
            if (mayDispose(record)) {
                if (ahead == i) {
                    return record;
                }
                ahead++;
            }
        }
        return NONE;
    }

    public int dispose() {
        return act(DISPOSE, 0, 0, 0, 0);
    }

    // ---- messages, deeds

    public int exchange() {
        int answer = act(EXCHANGE, 0, 0, 0, 0);
        return answer <= WRONG ? answer : keptAnswer;
    }

    public int deed() {
        if (deedFrom != NONE) {
            return STATE;
        }
        deedFrom = acts;
        return 1;
    }

    public int done(boolean kept) {
        if (deedFrom == NONE) {
            return STATE;
        }
        int start = deedFrom;
        int size = acts - start;
        deedFrom = NONE;
        if (!kept) {
            rewind(start);
        }
        return size;
    }

    public int tally(int what) {
        switch (what) {
            case 0: return deedFrom == NONE ? 0 : 1;
            case 1: return deedFrom == NONE ? acts : deedFrom;
            case 2: return readers.bookings;
            case 3: return rules.lines[RuleBook.ROUTE];
            case 4: return rules.lines[RuleBook.CHECK];
            case 5: return rules.lines[RuleBook.KEEP];
            case 6: return rules.strict ? 1 : 0;
            case 7: return lending.copiesUnderWay();
            default: return NONE;
        }
    }

    // ---- ACTS and the journal

    /** Does a call and keeps it in the journal, unless its answer is a refusal. */
    private int act(int call, int a, int b, int c, int d) {
        if (acts >= CALLS) {
            return FULL;
        }
        int length = call >= FIRST_TEXT ? tape.fed : 0;
        tape.openText(tape.kept, length);
        int answer = perform(call, a, b, c, d);
        if (call >= FIRST_TEXT) {
            tape.fed = 0;
        }
        if (answer >= 0) {
            int entry = acts * ENTRY;
            journal[entry] = call;
            journal[entry + 1] = a;
            journal[entry + 2] = b;
            journal[entry + 3] = c;
            journal[entry + 4] = d;
            journal[entry + 5] = length;
            acts++;
            tape.kept += length;
        }
        return answer;
    }

    /** The house becomes what the first ACTS of the journal, so many, make of an empty one. */
    private void rewind(int left) {
        restart();
        for (int i = 0; i < left; i++) {
            int entry = i * ENTRY;
            int length = journal[entry + 5];
            tape.openText(tape.kept, length);
            perform(journal[entry], journal[entry + 1], journal[entry + 2], journal[entry + 3],
                    journal[entry + 4]);
            tape.kept += length;
        }
        acts = left;
        desk.restart();
    }

    private void restart() {
        tape.kept = 0;
        tape.fed = 0;
        catalog.restart();
        authority.restart();
        rules.restart();
        readers.restart();
        lending.restart();
        buying.restart();
        stores.restart();
        keptMessage = 0;
        keptAnswer = 0;
    }

    /** One call that may make an ACT; an answer below 0 is a refusal, for every one of them. */
    private int perform(int call, int a, int b, int c, int d) {
        switch (call) {
            case TICK: return lending.passTo(a);
            case DROP: return dropRecord(a);
            case BROADER: return authority.setBroader(a, b);
            case LINK: return linkField(a, b, c);
            case READER: return readers.addReader(a);
            case COPY: return lending.addCopy(a, b);
            case AWAY: return lending.putAway(a);
            case CLOSED: return rules.closeDay(a);
            case LEND: return lending.lendTo(a, b);
            case RENEW: return lending.renewLoan(a);
            case BACK: return lending.takeBack(a, lending.tellPlace(a, 0));
            case HOLD: return lending.enterQueue(a, b, c);
            case UNHOLD: return lending.leaveQueue(a, b);
            case PAY: return readers.takeMoney(a, b);
            case CAME: return buying.receive(a, b, rules.today);
            case FUND: return buying.addFund(a);
            case ORDER: return buying.addOrder(a, b);
            case INVOICE: return buying.chargeOrder(a, b);
            case CANCEL: return buying.cancelOrder(a);
            case TRANSFER: return buying.moveMoney(a, b, c);
            case ANSWERS: return stores.setAnswering(a, b == 1);
            case ALTER: return stores.alterByte(a, b, c, d);
            case LOSE: return stores.loseCopy(a, b);
            case MEND: return stores.mendPackage(a);
            case HOME: return lending.setHome(a, b);
            case PICKUP: return readers.setPickup(a, b);
            case BRING: return lending.takeBack(a, b);
            case BOOK: return lending.bookCopy(a, b, c, d);
            case UNBOOK: return readers.takeBookingBack(a, rules.today);
            case STRICT: return rules.setStrict(a == 1);
            case FREEZE: return catalog.setFrozen(a, b == 1);
            case DISPOSE: return disposeAll();
            case RECORD: return addRecord();
            case EDIT: return editRecord(a);
            case HEADING: return authority.addHeading(tape, rules.today);
            case RENAME: return authority.renameHeading(a, tape, rules.today);
            case RULES: return rules.readLines(RuleBook.LOAN);
            case SERIAL: return catalog.isThere(a) ? buying.addSerial(a, tape, rules.today) : NONE;
            case PACK: return stores.addPackage(tape);
            case ROUTES: return rules.readLines(RuleBook.ROUTE);
            case MARK: return lending.setMark(a, tape);
            case CHECKS: return rules.readLines(RuleBook.CHECK);
            case BATCH: return runBatch();
            case RETENTION: return rules.readLines(RuleBook.KEEP);
            case EXCHANGE: return runMessage();
            default: return NONE;
        }
    }

    // ---- what needs several parts of the house

    private int addRecord() {
        int refusal = readNewVersion();
        if (refusal != 0) {
            return refusal;
        }
        if (catalog.records >= RECORDS || catalog.versions >= VERSIONS) {
            return FULL;
        }
        return catalog.addRecord(work, rules.today);
    }

    private int editRecord(int record) {
        if (!catalog.isThere(record)) {
            return NONE;
        }
        int refusal = readNewVersion();
        if (refusal != 0) {
            return refusal;
        }
        if (catalog.versions >= VERSIONS) {
            return FULL;
        }
        catalog.addVersion(record, work, rules.today);
        return catalog.versionsOf(record);
    }

    /** Reads a RECORD TEXT: 0, or why it is refused. */
    private int readNewVersion() {
        work.readRecord(tape);
        if (!tape.isRight()) {
            return tape.refusal();
        }
        return rules.strict && rules.isAnyBroken(work) ? NOT_BY_RULE : 0;
    }

    private int dropRecord(int record) {
        if (!catalog.isThere(record)) {
            return NONE;
        }
        if (lending.hasCopyLeft(record) || buying.hasSerial(record)
                || lending.queueLength(record) > 0) {
            return STATE;
        }
        catalog.setGone(record, rules.today);
        return 1;
    }

    private int linkField(int record, int field, int heading) {
        if (!catalog.isThere(record)) {
            return NONE;
        }
        int version = catalog.last[record];
        if (field < 0 || field >= catalog.fields[version]
                || heading < 0 || heading > authority.headings) {
            return NONE;
        }
        catalog.copyTo(work, version);
        boolean linkedSo = authority.linkedHeading(version, field) == heading;
        if (work.slotOf(field, 'a') == NONE || linkedSo) {
            return STATE;
        }
        if (authority.links >= LINKS) {
            return FULL;
        }
        authority.addLink(version, field, heading, rules.today);
        catalog.changed[record] = rules.today;
        return 1;
    }

    /** The record at hand becomes THE PRINT, on a day, of THE VERSION on that day. */
    private void layPrint(int version, int day) {
        catalog.copyTo(work, version);
        authority.layNames(work, version, day);
    }

    /** FOUND is, by FILING, what meets the question that was read. */
    private void searchAll() {
        desk.foundCount = 0;
        desk.outcomes = 0;
        for (int record = 1; record <= catalog.records; record++) {
            if (catalog.isThere(record)) {
                layPrint(catalog.last[record], rules.today);
                question.splitWords(work);
                if (question.isMet(work)) {
                    desk.fileRecord(record, work);
                }
            }
        }
    }

    private int runBatch() {
        question.readQuestion();
        tape.takeByte('\n');
        int steps = rules.readLines(RuleBook.STEP);
        if (steps < 0) {
            return steps;
        }
        searchAll();
        int changed = 0;
        for (int i = 0; i < desk.foundCount; i++) {
            desk.outcome[i] = changeRecord(desk.found[i]);
            changed += desk.outcome[i] == Desk.CHANGED ? 1 : 0;
        }
        desk.outcomes = desk.foundCount;
        return changed;
    }

    private int changeRecord(int record) {
        int version = catalog.last[record];
        catalog.copyTo(work, version);
        for (int step = 0; step < rules.lines[RuleBook.STEP]; step++) {
            rules.applyStep(step, work);
        }
        if (!work.hasRightSize() || rules.strict && rules.isAnyBroken(work)) {
            return Desk.FAILED;
        }
        if (catalog.isSame(version, work, tape)) {
            return Desk.AS_IT_WAS;
        }
        if (catalog.versions >= VERSIONS) {
            return Desk.FAILED;
        }
        catalog.addVersion(record, work, rules.today);
        return Desk.CHANGED;
    }

    private boolean mayDispose(int record) {
        if (!catalog.isThere(record) || catalog.frozen[record] || buying.hasSerial(record)
                || lending.isInUse(record)) {
            return false;
        }
        int version = catalog.last[record];
        layPrint(version, rules.today);
        int days = rules.daysToKeep(work);
        return days != NONE && catalog.day[version] + days < rules.today;
    }

    private int disposeAll() {
        int disposed = 0;
        for (int record = 1; record <= catalog.records; record++) {
            if (mayDispose(record)) {
                lending.putAllAway(record);
                catalog.setGone(record, rules.today);
                disposed++;
            }
        }
        return disposed;
    }

    /** A MESSAGE is KEPT with what is told of it: 1, or a refusal if it is no ACT. */
    private int runMessage() {
        int kind = tape.takeWord("L|B|R|H|U|P");
        int numbers = kind == 2 ? 1 : kind == 3 ? 3 : 2;
        int a = tape.takeNextNumber();
        int b = numbers > 1 ? tape.takeNextNumber() : 0;
        int c = numbers > 2 ? tape.takeNextNumber() : 0;
        tape.takeWord(" #");
        tape.takeBetween('0', '9');
        tape.takeEnd();
        if (!tape.isRight()) {
            return tape.refusal();
        }
        int message = tape.wholeText();
        if (keptMessage != 0 && tape.isSameRow(message, keptMessage)) {
            return STATE;
        }
        keptMessage = message;
        switch (kind) {
            case 0: keptAnswer = lending.lendTo(a, b); break;
            case 1: keptAnswer = lending.takeBack(a, b); break;
            case 2: keptAnswer = lending.renewLoan(a); break;
            case 3: keptAnswer = lending.enterQueue(a, b, c); break;
            case 4: keptAnswer = lending.leaveQueue(a, b); break;
            default: keptAnswer = readers.takeMoney(a, b); break;
        }
        return 1;
    }

    private static boolean isDigit(int b) {
        return b >= '0' && b <= '9';
    }

    private static boolean isLetter(int b) {
        return b >= 'a' && b <= 'z' || b >= 'A' && b <= 'Z';
    }

    /**
     * The texts of all ACTS, one behind the other, then the tape; and the reading of one text.
     * Reading goes on behind what is WRONG, but the first place that is WRONG stays.
     */
    private static final class Tape {
        final byte[] bytes = new byte[TEXT_BYTES];
        /** How many bytes the texts of ACTS have, and the tape behind them. */
        int kept;
        int fed;
        /** The text that is read: where it begins, goes on and ends, and what place is WRONG. */
        int from;
        int at;
        int to;
        int wrong = NONE;

        boolean hasRoom() {
            return fed + FEED_BYTES <= TAPE_BYTES && kept + fed + FEED_BYTES <= bytes.length;
        }

        void put(int four) {
            for (int shift = 24; shift >= 0; shift -= 8) {
                bytes[kept + fed] = (byte) (four >> shift);
                fed++;
            }
        }

        void openText(int start, int length) {
            from = start;
            at = start;
            to = start + length;
            wrong = NONE;
        }

        boolean isRight() {
            return wrong == NONE;
        }

        int refusal() {
            return WRONG - wrong;
        }

        /** The byte that comes, or NONE at the end and behind what is WRONG. */
        int peek() {
            return wrong == NONE && at < to ? bytes[at] & 255 : NONE;
        }

        /** What comes is WRONG, whatever it is. */
        void stopHere() {
            if (wrong == NONE) {
                wrong = at - from;
            }
        }

        void takeEnd() {
            if (at < to && wrong == NONE) {
                wrong = at - from;
            }
        }

        void takeByte(int wanted) {
            if (at < to && bytes[at] == wanted) {
                at++;
            } else if (wrong == NONE) {
                wrong = at - from;
            }
        }

        /** A byte of a range: how far it is from the lowest one. */
        int takeBetween(int low, int high) {
            if (at < to && bytes[at] >= low && bytes[at] <= high) {
                at++;
                return bytes[at - 1] - low;
            }
            if (wrong == NONE) {
                wrong = at - from;
            }
            return 0;
        }

        int takeNumber(int low, int high) {
            int start = at;
            int value = 0;
            while (at < to && bytes[at] >= '0' && bytes[at] <= '9') {
                if (at - start < 5) {
                    value = value * 10 + bytes[at] - '0';
                }
                at++;
            }
            int digits = at - start;
            boolean zeroAhead = digits > 1 && bytes[start] == '0';
            boolean fits = digits >= 1 && digits <= 5 && value >= low && value <= high;
            if ((zeroAhead || !fits) && wrong == NONE) {
                wrong = start - from;
            }
            return value;
        }

        int takeNextNumber() {
            takeByte(' ');
            return takeNumber(0, 99999);
        }

        int takeTag(int lowest) {
            int start = at;
            int value = 0;
            while (at < to && at - start < 3 && bytes[at] >= '0' && bytes[at] <= '9') {
                value = value * 10 + bytes[at] - '0';
                at++;
            }
            if (wrong == NONE && at - start < 3) {
                wrong = at - from;
            } else if (wrong == NONE && value < lowest) {
                wrong = start - from;
            }
            return value;
        }

        int takeIndicator() {
            int b = at < to ? bytes[at] : NONE;
            if (b == ' ' || b >= '0' && b <= '9') {
                at++;
            } else if (wrong == NONE) {
                wrong = at - from;
            }
            return b;
        }

        int takeCode() {
            int b = at < to ? bytes[at] : NONE;
            if (b >= 'a' && b <= 'z' || b >= '0' && b <= '9') {
                at++;
            } else if (wrong == NONE) {
                wrong = at - from;
            }
            return b;
        }

        /** What may follow a ROW is no byte of one, so that whoever reads on finds a 41st WRONG. */
        int takeRow() {
            int start = at;
            while (at < to && at - start < ROW_BYTES && bytes[at] >= ' ' && bytes[at] <= '~'
                    && bytes[at] != '$') {
                at++;
            }
            if (at == start && wrong == NONE) {
                wrong = at - from;
            }
            return start << ROW_SHIFT | (at - start);
        }

        /** A WORD of a QUESTION, told as a ROW is; whoever reads on finds a 13th byte WRONG. */
        int takeSmallWord() {
            int start = at;
            while (at < to && at - start < WORD_BYTES && (bytes[at] >= 'a' && bytes[at] <= 'z'
                    || bytes[at] >= '0' && bytes[at] <= '9')) {
                at++;
            }
            if (at == start && wrong == NONE) {
                wrong = at - from;
            }
            return start << ROW_SHIFT | (at - start);
        }

        /** Which of the words comes, from 0 on; the list has a bar between them. */
        int takeWord(String list) {
            int which = 0;
            int same = 0;
            int best = 0;
            boolean differs = false;
            for (int i = 0; i <= list.length(); i++) {
                boolean ends = i == list.length() || list.charAt(i) == '|';
                if (ends && !differs) {
                    at += same;
                    return which;
                }
                if (ends) {
                    which++;
                    same = 0;
                    differs = false;
                } else if (!differs && at + same < to && bytes[at + same] == list.charAt(i)) {
                    same++;
                    best = Math.max(best, same);
                } else {
                    differs = true;
                }
            }
            if (wrong == NONE) {
                wrong = at + best - from;
            }
            return NONE;
        }

        int wholeText() {
            return from << ROW_SHIFT | Math.min(to - from, ROW_MASK);
        }

        int rowByte(int row, int i) {
            return i >= 0 && i < (row & ROW_MASK) ? bytes[(row >> ROW_SHIFT) + i] & 255 : NONE;
        }

        boolean isSameRow(int row, int other) {
            return compareRows(row, other) == 0;
        }

        /** Byte by byte, a beginning first. */
        int compareRows(int row, int other) {
            int length = row & ROW_MASK;
            int otherLength = other & ROW_MASK;
            int start = row >> ROW_SHIFT;
            int otherStart = other >> ROW_SHIFT;
            for (int i = 0; i < length && i < otherLength; i++) {
                if (bytes[start + i] != bytes[otherStart + i]) {
                    return bytes[start + i] - bytes[otherStart + i];
                }
            }
            return length - otherLength;
        }
    }

    /** A record outside the catalog. A CONTROL field has one SUBFIELD, whose code is 0. */
    private static final class Draft {
        int fields;
        final int[] tag = new int[DRAFT_FIELDS];
        final int[] first = new int[DRAFT_FIELDS];
        final int[] second = new int[DRAFT_FIELDS];
        /** Of a PRINT alone: to which heading each field is LINKED, or 0. */
        final int[] heading = new int[DRAFT_FIELDS];
        final int[] subs = new int[DRAFT_FIELDS];
        final int[] code = new int[DRAFT_FIELDS * DRAFT_SUBFIELDS];
        final int[] row = new int[DRAFT_FIELDS * DRAFT_SUBFIELDS];

        void readRecord(Tape tape) {
            fields = 0;
            for (int i = 0; i < FIELDS && (i == 0 || tape.peek() != NONE); i++) {
                readField(tape);
            }
            tape.takeEnd();
        }

        void readField(Tape tape) {
            int told = tape.takeTag(1);
            tape.takeByte(' ');
            boolean control = told < FIRST_DATA_TAG;
            int field = addField(told, control ? 0 : tape.takeIndicator(),
                    control ? 0 : tape.takeIndicator());
            if (control) {
                addSubfield(field, 0, tape.takeRow());
            }
            for (int i = 0; i < SUBFIELDS && !control && (i == 0 || tape.peek() == '$'); i++) {
                tape.takeByte('$');
                int letter = tape.takeCode();
                addSubfield(field, letter, tape.takeRow());
            }
            tape.takeByte('\n');
        }

        /** The number of the new field, or NONE if there is no room. */
        int addField(int newTag, int firstIndicator, int secondIndicator) {
            if (fields >= DRAFT_FIELDS) {
                return NONE;
            }
            tag[fields] = newTag;
            first[fields] = firstIndicator;
            second[fields] = secondIndicator;
            subs[fields] = 0;
            fields++;
            return fields - 1;
        }

        void addSubfield(int field, int letter, int newRow) {
            if (field >= 0 && field < fields && subs[field] < DRAFT_SUBFIELDS) {
                int slot = field * DRAFT_SUBFIELDS + subs[field];
                code[slot] = letter;
                row[slot] = newRow;
                subs[field]++;
            }
        }

        void appendField(Draft other, int field) {
            if (fields < DRAFT_FIELDS && field >= 0 && field < other.fields) {
                copyField(other, field, fields);
                fields++;
            }
        }

        void removeFields(int goneTag) {
            int left = 0;
            for (int field = 0; field < fields; field++) {
                if (tag[field] != goneTag) {
                    copyField(this, field, left);
                    left++;
                }
            }
            fields = left;
        }

        private void copyField(Draft other, int from, int to) {
            tag[to] = other.tag[from];
            first[to] = other.first[from];
            second[to] = other.second[from];
            subs[to] = other.subs[from];
            int slot = from * DRAFT_SUBFIELDS;
            System.arraycopy(other.code, slot, code, to * DRAFT_SUBFIELDS, DRAFT_SUBFIELDS);
            System.arraycopy(other.row, slot, row, to * DRAFT_SUBFIELDS, DRAFT_SUBFIELDS);
        }

        void setRows(int wantedTag, int letter, int newRow) {
            for (int field = 0; field < fields; field++) {
                if (tag[field] == wantedTag) {
                    int slot = slotOf(field, letter);
                    if (slot == NONE) {
                        addSubfield(field, letter, newRow);
                    } else {
                        row[slot] = newRow;
                    }
                }
            }
        }

        /** Where the first SUBFIELD of a field with a CODE is, or NONE. */
        int slotOf(int field, int letter) {
            int start = field * DRAFT_SUBFIELDS;
            for (int slot = start; slot < start + subs[field]; slot++) {
                if (code[slot] == letter) {
                    return slot;
                }
            }
            return NONE;
        }

        boolean hasRightSize() {
            boolean right = fields >= 1 && fields <= FIELDS;
            for (int field = 0; field < fields; field++) {
                right = right && subs[field] <= SUBFIELDS;
            }
            return right;
        }

        int longestRow(int field) {
            int longest = 0;
            for (int s = 0; s < subs[field]; s++) {
                longest = Math.max(longest, row[field * DRAFT_SUBFIELDS + s] & ROW_MASK);
            }
            return longest;
        }

        /** How many bytes a field has in THE EXCHANGE FORM, with the one that ends it. */
        int exchangeBytes(int field) {
            boolean control = tag[field] < FIRST_DATA_TAG;
            int size = control ? 1 : 3;
            for (int s = 0; s < subs[field]; s++) {
                size += (row[field * DRAFT_SUBFIELDS + s] & ROW_MASK) + (control ? 0 : 2);
            }
            return size;
        }
    }

    /** Records and their VERSIONS. */
    private static final class Catalog {
        int records;
        /** The latest VERSION of each record; each VERSION knows the one before it. */
        final int[] last = new int[RECORDS + 1];
        final int[] goneOn = new int[RECORDS + 1];
        final int[] changed = new int[RECORDS + 1];
        final boolean[] frozen = new boolean[RECORDS + 1];
        int versions;
        final int[] earlier = new int[VERSIONS];
        final int[] day = new int[VERSIONS];
        final int[] fields = new int[VERSIONS];
        final int[] tag = new int[VERSIONS * FIELDS];
        final int[] first = new int[VERSIONS * FIELDS];
        final int[] second = new int[VERSIONS * FIELDS];
        final int[] subs = new int[VERSIONS * FIELDS];
        final int[] code = new int[VERSIONS * FIELDS * SUBFIELDS];
        final int[] row = new int[VERSIONS * FIELDS * SUBFIELDS];

        void restart() {
            records = 0;
            versions = 0;
        }

        boolean isThere(int record) {
            return record >= 1 && record <= records && goneOn[record] == NONE;
        }

        int addRecord(Draft draft, int today) {
            records++;
            last[records] = NONE;
            goneOn[records] = NONE;
            frozen[records] = false;
            addVersion(records, draft, today);
            return records;
        }

        void addVersion(int record, Draft draft, int today) {
            int version = versions;
            versions++;
            earlier[version] = last[record];
            last[record] = version;
            day[version] = today;
            changed[record] = today;
            fields[version] = draft.fields;
            for (int f = 0; f < draft.fields; f++) {
                int field = version * FIELDS + f;
                tag[field] = draft.tag[f];
                first[field] = draft.first[f];
                second[field] = draft.second[f];
                subs[field] = draft.subs[f];
                int slot = f * DRAFT_SUBFIELDS;
                System.arraycopy(draft.code, slot, code, field * SUBFIELDS, draft.subs[f]);
                System.arraycopy(draft.row, slot, row, field * SUBFIELDS, draft.subs[f]);
            }
        }

        void copyTo(Draft draft, int version) {
            draft.fields = fields[version];
            for (int f = 0; f < fields[version]; f++) {
                int field = version * FIELDS + f;
                draft.tag[f] = tag[field];
                draft.first[f] = first[field];
                draft.second[f] = second[field];
                draft.heading[f] = 0;
                draft.subs[f] = subs[field];
                int slot = f * DRAFT_SUBFIELDS;
                System.arraycopy(code, field * SUBFIELDS, draft.code, slot, subs[field]);
                System.arraycopy(row, field * SUBFIELDS, draft.row, slot, subs[field]);
            }
        }

        boolean isSame(int version, Draft draft, Tape tape) {
            boolean same = fields[version] == draft.fields;
            for (int f = 0; same && f < draft.fields; f++) {
                int field = version * FIELDS + f;
                same = tag[field] == draft.tag[f] && first[field] == draft.first[f]
                        && second[field] == draft.second[f] && subs[field] == draft.subs[f];
                for (int s = 0; same && s < draft.subs[f]; s++) {
                    int slot = f * DRAFT_SUBFIELDS + s;
                    same = code[field * SUBFIELDS + s] == draft.code[slot]
                            && tape.isSameRow(row[field * SUBFIELDS + s], draft.row[slot]);
                }
            }
            return same;
        }

        /** THE VERSION of a record on a day; NONE if it had not come, or was GONE. */
        int versionOn(int record, int onDay) {
            if (record < 1 || record > records) {
                return NONE;
            }
            if (goneOn[record] != NONE && onDay >= goneOn[record]) {
                return NONE;
            }
            int version = last[record];
            for (int i = 0; i < VERSIONS && version != NONE && day[version] > onDay; i++) {
                version = earlier[version];
            }
            return version;
        }

        int versionsOf(int record) {
            int number = 0;
            int version = last[record];
            while (version != NONE && number < VERSIONS) {
                version = earlier[version];
                number++;
            }
            return number;
        }

        void setGone(int record, int today) {
            goneOn[record] = today;
            changed[record] = today;
        }

        int setFrozen(int record, boolean on) {
            if (!isThere(record)) {
                return NONE;
            }
            if (frozen[record] == on) {
                return STATE;
            }
            frozen[record] = on;
            return 1;
        }
    }

    /** Headings with their NAMES, and the LINKS of fields to them. */
    private static final class Authority {
        int headings;
        final int[] above = new int[HEADINGS + 1];
        final int[] lastName = new int[HEADINGS + 1];
        int names;
        final int[] earlierName = new int[NAMES];
        final int[] nameDay = new int[NAMES];
        final int[] nameRow = new int[NAMES];
        int links;
        final int[] linkVersion = new int[LINKS];
        final int[] linkField = new int[LINKS];
        final int[] linkHeading = new int[LINKS];
        final int[] linkDay = new int[LINKS];

        void restart() {
            headings = 0;
            names = 0;
            links = 0;
        }

        boolean has(int heading) {
            return heading >= 1 && heading <= headings;
        }

        int addHeading(Tape tape, int today) {
            int row = tape.takeRow();
            tape.takeEnd();
            if (!tape.isRight()) {
                return tape.refusal();
            }
            if (isNamed(row, tape)) {
                return STATE;
            }
            if (headings >= HEADINGS || names >= NAMES) {
                return FULL;
            }
            headings++;
            above[headings] = 0;
            lastName[headings] = NONE;
            addName(headings, row, today);
            return headings;
        }

        int renameHeading(int heading, Tape tape, int today) {
            if (!has(heading)) {
                return NONE;
            }
            int row = tape.takeRow();
            tape.takeEnd();
            if (!tape.isRight()) {
                return tape.refusal();
            }
            if (isNamed(row, tape)) {
                return STATE;
            }
            if (names >= NAMES) {
                return FULL;
            }
            addName(heading, row, today);
            return 1;
        }

        private boolean isNamed(int row, Tape tape) {
            for (int heading = 1; heading <= headings; heading++) {
                if (tape.isSameRow(nameRow[lastName[heading]], row)) {
                    return true;
                }
            }
            return false;
        }

        private void addName(int heading, int row, int today) {
            earlierName[names] = lastName[heading];
            nameDay[names] = today;
            nameRow[names] = row;
            lastName[heading] = names;
            names++;
        }

        private int nameOn(int heading, int day) {
            int name = lastName[heading];
            for (int i = 0; i < NAMES && nameDay[name] > day && earlierName[name] != NONE; i++) {
                name = earlierName[name];
            }
            return nameRow[name];
        }

        int setBroader(int heading, int other) {
            if (!has(heading) || other != 0 && !has(other)) {
                return NONE;
            }
            if (isUnder(other, heading)) {
                return STATE;
            }
            above[heading] = other;
            return 1;
        }

        /** Whether a heading is the top one, or has it as its BROADER one at any depth. */
        boolean isUnder(int heading, int top) {
            int step = heading;
            for (int i = 0; i <= HEADINGS && step != 0 && step != top; i++) {
                step = above[step];
            }
            return step != 0 && step == top;
        }

        int ringedHeadings() {
            int ringed = 0;
            for (int heading = 1; heading <= headings; heading++) {
                ringed += isUnder(above[heading], heading) ? 1 : 0;
            }
            return ringed;
        }

        void addLink(int version, int field, int heading, int today) {
            linkVersion[links] = version;
            linkField[links] = field;
            linkHeading[links] = heading;
            linkDay[links] = today;
            links++;
        }

        /** The heading to which a field of a VERSION is LINKED today, or 0. */
        int linkedHeading(int version, int field) {
            for (int i = links - 1; i >= 0; i--) {
                if (linkVersion[i] == version && linkField[i] == field) {
                    return linkHeading[i];
                }
            }
            return 0;
        }

        /** A VERSION at hand gets its LINKS and, from them, the NAMES of a day. */
        void layNames(Draft draft, int version, int day) {
            for (int i = 0; i < links; i++) {
                if (linkVersion[i] == version && linkDay[i] <= day
                        && linkField[i] < draft.fields) {
                    draft.heading[linkField[i]] = linkHeading[i];
                }
            }
            for (int field = 0; field < draft.fields; field++) {
                int slot = draft.slotOf(field, 'a');
                if (draft.heading[field] != 0 && slot != NONE) {
                    draft.row[slot] = nameOn(draft.heading[field], day);
                }
            }
        }
    }

    /** A QUESTION that was read: its TERMS, and a row of these and of what joins them. */
    private static final class Question {
        private static final int HEADING_TERM = 4;
        private final Tape tape;
        private final Authority authority;
        /** Numbers of TERMS, and what joins them behind both its sides. */
        private final int[] program = new int[2 * TERMS];
        private int programLength;
        /** Open brackets, and what joins TERMS but has not its right side yet. */
        private final int[] waiting = new int[2 * TERMS + BRACKETS];
        private int waitingCount;
        /** Of each TERM where it looks, and its WORDS or the heading that it asks for. */
        private int terms;
        private final int[] place = new int[TERMS];
        private final int[] firstWord = new int[TERMS];
        private final int[] wordsTold = new int[TERMS];
        private final boolean[] begins = new boolean[TERMS];
        private final int[] top = new int[TERMS];
        private int words;
        private final int[] word = new int[TERMS * PHRASE_WORDS];
        private final boolean[] truth = new boolean[TERMS + 1];
        /** The WORDS of the record that is asked, each with its SUBFIELD. */
        private int seen;
        private final int[] seenWord = new int[FIELDS * SUBFIELDS * ROW_BYTES / 2];
        private final int[] seenSlot = new int[FIELDS * SUBFIELDS * ROW_BYTES / 2];

        Question(Tape tape, Authority authority) {
            this.tape = tape;
            this.authority = authority;
        }

        /** Reads as far as a QUESTION goes; what must stand behind it the caller knows. */
        void readQuestion() {
            programLength = 0;
            waitingCount = 0;
            terms = 0;
            words = 0;
            int depth = 0;
            boolean more = true;
            for (int i = 0; i <= TERMS && more; i++) {
                depth = openBrackets(depth);
                readTerm();
                depth = closeBrackets(depth);
                more = tape.peek() == ' ';
                if (more) {
                    readJoint();
                }
            }
            if (depth > 0) {
                tape.stopHere();
            }
            settleWaiting(false);
        }

        /** A bracket that would be too deep is left to the TERM, that can't begin with it. */
        private int openBrackets(int depth) {
            int deep = depth;
            while (deep < BRACKETS && tape.peek() == '(') {
                tape.takeByte('(');
                pushWaiting(OPENED);
                deep++;
            }
            return deep;
        }

        private int closeBrackets(int depth) {
            int deep = depth;
            while (deep > 0 && tape.peek() == ')') {
                tape.takeByte(')');
                settleWaiting(false);
                waitingCount = Math.max(0, waitingCount - 1);
                deep--;
            }
            return deep;
        }

        private void readJoint() {
            tape.takeByte(' ');
            int which = tape.takeWord("and|or|not");
            int joint = which == 0 ? AND : which == 1 ? OR : NOT;
            tape.takeByte(' ');
            settleWaiting(joint == AND);
            pushWaiting(joint);
        }

        private void pushWaiting(int joint) {
            if (waitingCount < waiting.length) {
                waiting[waitingCount] = joint;
                waitingCount++;
            }
        }

        /** What waits since the latest open bracket has both its sides now. */
        private void settleWaiting(boolean andsAlone) {
            while (waitingCount > 0 && waiting[waitingCount - 1] != OPENED
                    && (!andsAlone || waiting[waitingCount - 1] == AND)) {
                waitingCount--;
                addToProgram(waiting[waitingCount]);
            }
        }

        private void addToProgram(int step) {
            if (programLength < program.length) {
                program[programLength] = step;
                programLength++;
            }
        }

        private void readTerm() {
            if (terms >= TERMS) {
                tape.stopHere();
                return;
            }
            int kind = tape.takeWord("t|a|s|n|h");
            tape.takeByte('=');
            place[terms] = kind;
            firstWord[terms] = words;
            begins[terms] = false;
            if (kind == HEADING_TERM) {
                top[terms] = tape.takeNumber(1, HEADINGS);
            } else {
                readWords();
            }
            wordsTold[terms] = words - firstWord[terms];
            addToProgram(terms);
            terms++;
        }

        private void readWords() {
            if (tape.peek() != '"') {
                addWord(tape.takeSmallWord());
                begins[terms] = tape.peek() == '*';
                tape.at += begins[terms] ? 1 : 0;
                return;
            }
            tape.takeByte('"');
            addWord(tape.takeSmallWord());
            for (int i = 1; i <= PHRASE_WORDS && tape.peek() == ' '; i++) {
                tape.takeByte(' ');
                if (i == PHRASE_WORDS) {
                    tape.stopHere();
                } else {
                    addWord(tape.takeSmallWord());
                }
            }
            tape.takeByte('"');
        }

        private void addWord(int told) {
            if (words < word.length) {
                word[words] = told;
                words++;
            }
        }

        /** The WORDS of all ROWS of a record are made out once, for all TERMS. */
        void splitWords(Draft draft) {
            seen = 0;
            for (int field = 0; field < draft.fields; field++) {
                for (int s = 0; s < draft.subs[field]; s++) {
                    splitRow(draft.row[field * DRAFT_SUBFIELDS + s], field * DRAFT_SUBFIELDS + s);
                }
            }
        }

        private void splitRow(int row, int slot) {
            int start = row >> ROW_SHIFT;
            int length = row & ROW_MASK;
            int size = 0;
            for (int i = 0; i <= length; i++) {
                int b = i < length ? tape.bytes[start + i] : NONE;
                if (isLetter(b) || isDigit(b)) {
                    size++;
                } else if (size > 0 && seen < seenWord.length) {
                    seenWord[seen] = (start + i - size) << ROW_SHIFT | size;
                    seenSlot[seen] = slot;
                    seen++;
                    size = 0;
                }
            }
        }

        /** Whether the record whose WORDS were made out MEETS the QUESTION. */
        boolean isMet(Draft draft) {
            int height = 0;
            for (int i = 0; i < programLength; i++) {
                int step = program[i];
                if (step >= 0 && height < truth.length) {
                    truth[height] = isTermMet(step, draft);
                    height++;
                } else if (height >= 2) {
                    height--;
                    boolean left = truth[height - 1];
                    boolean right = truth[height];
                    truth[height - 1] = step == OR ? left || right
                            : left && right != (step == NOT);
                }
            }
            return height > 0 && truth[0];
        }

        private boolean isTermMet(int term, Draft draft) {
            if (place[term] == HEADING_TERM) {
                for (int field = 0; field < draft.fields; field++) {
                    if (authority.isUnder(draft.heading[field], top[term])) {
                        return true;
                    }
                }
                return false;
            }
            for (int i = 0; i + wordsTold[term] <= seen; i++) {
                int tag = draft.tag[seenSlot[i] / DRAFT_SUBFIELDS];
                if (isTold(place[term], tag) && isPhraseAt(i, term)) {
                    return true;
                }
            }
            return false;
        }

        private static boolean isTold(int where, int tag) {
            switch (where) {
                case 0: return tag == 245;
                case 1: return tag == 100 || tag == 700;
                case 2: return tag == 650;
                default: return true;
            }
        }

        private boolean isPhraseAt(int start, int term) {
            for (int w = 0; w < wordsTold[term]; w++) {
                int told = word[firstWord[term] + w];
                int there = seenWord[start + w];
                int length = told & ROW_MASK;
                int size = there & ROW_MASK;
                boolean same = seenSlot[start + w] == seenSlot[start]
                        && (begins[term] ? size >= length : size == length);
                for (int i = 0; same && i < length; i++) {
                    // Bit 32 makes a capital small, and digits have it already.
                    same = (tape.bytes[(there >> ROW_SHIFT) + i] | 32)
                            == tape.bytes[(told >> ROW_SHIFT) + i];
                }
                if (!same) {
                    return false;
                }
            }
            return true;
        }
    }

    /** What was printed and found, and tokens: it lies on the desk, and is gone with the power. */
    private static final class Desk {
        static final int AS_IT_WAS = 0;
        static final int CHANGED = 1;
        static final int FAILED = 2;
        private static final int PAGE_BYTES = 3000;
        private static final int TITLE_TAG = 245;
        private static final int OTHERS = 0;
        private static final int DIGITS = 1;
        private static final int LETTERS = 2;
        private final Tape tape;
        final byte[] page = new byte[PAGE_BYTES];
        int pageLength;
        final int[] found = new int[RECORDS];
        int foundCount;
        private final int[] titleFrom = new int[RECORDS];
        private final int[] titleTo = new int[RECORDS];
        final int[] outcome = new int[RECORDS];
        int outcomes;
        int values;
        final int[] valueRow = new int[RECORDS * FIELDS];
        final int[] valueRecords = new int[RECORDS * FIELDS];
        private final int[] valueLast = new int[RECORDS * FIELDS];
        private final boolean[] tokenUsed = new boolean[TOKENS + 1];
        private final int[] tokenFrom = new int[TOKENS + 1];
        private final int[] tokenTo = new int[TOKENS + 1];
        private final int[] tokenDay = new int[TOKENS + 1];
        private final int[] tokenRecord = new int[TOKENS + 1];

        Desk(Tape tape) {
            this.tape = tape;
        }

        void restart() {
            pageLength = 0;
            foundCount = 0;
            outcomes = 0;
            for (int token = 1; token <= TOKENS; token++) {
                tokenUsed[token] = false;
            }
        }

        private void write(int b) {
            if (pageLength < PAGE_BYTES) {
                page[pageLength] = (byte) b;
                pageLength++;
            }
        }

        private void writeNumber(int value, int digits) {
            int unit = 1;
            for (int i = 1; i < digits; i++) {
                unit *= 10;
            }
            for (int i = 0; i < digits && unit > 0; i++) {
                write('0' + value / unit % 10);
                unit /= 10;
            }
        }

        void writeText(Draft draft) {
            for (int field = 0; field < draft.fields; field++) {
                writeNumber(draft.tag[field], 3);
                write(' ');
                writeField(draft, field, '$');
                write('\n');
            }
        }

        void writeExchange(Draft draft) {
            int base = 11 + 12 * draft.fields;
            int size = 0;
            for (int field = 0; field < draft.fields; field++) {
                size += draft.exchangeBytes(field);
            }
            writeNumber(base + size + 1, 5);
            writeNumber(base, 5);
            int behind = 0;
            for (int field = 0; field < draft.fields; field++) {
                writeNumber(draft.tag[field], 3);
                writeNumber(draft.exchangeBytes(field), 4);
                writeNumber(behind, 5);
                behind += draft.exchangeBytes(field);
            }
            write(30);
            for (int field = 0; field < draft.fields; field++) {
                writeField(draft, field, 31);
                write(30);
            }
            write(29);
        }

        /** A field without what both forms have around it, a byte ahead of each CODE. */
        private void writeField(Draft draft, int field, int ahead) {
            boolean control = draft.tag[field] < FIRST_DATA_TAG;
            if (!control) {
                write(draft.first[field]);
                write(draft.second[field]);
            }
            for (int s = 0; s < draft.subs[field]; s++) {
                int slot = field * DRAFT_SUBFIELDS + s;
                if (!control) {
                    write(ahead);
                    write(draft.code[slot]);
                }
                int row = draft.row[slot];
                for (int i = 0; i < (row & ROW_MASK); i++) {
                    write(tape.bytes[(row >> ROW_SHIFT) + i]);
                }
            }
        }

        /** Puts a record among those FOUND; they come by numbers, so equal titles stay so. */
        void fileRecord(int record, Draft print) {
            if (foundCount >= RECORDS) {
                return;
            }
            int from = NONE;
            int to = NONE;
            for (int field = print.fields - 1; field >= 0; field--) {
                int slot = print.slotOf(field, 'a');
                if (print.tag[field] == TITLE_TAG && slot != NONE) {
                    int skipped = print.second[field] == ' ' ? 0 : print.second[field] - '0';
                    from = print.row[slot] >> ROW_SHIFT;
                    to = from + (print.row[slot] & ROW_MASK);
                    from = Math.min(to, from + skipped);
                }
            }
            int at = foundCount;
            while (at > 0 && compareTitles(from, to, titleFrom[at - 1], titleTo[at - 1]) < 0) {
                found[at] = found[at - 1];
                titleFrom[at] = titleFrom[at - 1];
                titleTo[at] = titleTo[at - 1];
                at--;
            }
            found[at] = record;
            titleFrom[at] = from;
            titleTo[at] = to;
            foundCount++;
        }

        private int compareTitles(int from, int to, int otherFrom, int otherTo) {
            if (from == NONE || otherFrom == NONE) {
                return (from == NONE ? 1 : 0) - (otherFrom == NONE ? 1 : 0);
            }
            int at = from;
            int other = otherFrom;
            int order = 0;
            for (int i = 0; i <= ROW_BYTES && order == 0; i++) {
                at = endOf(OTHERS, at, to);
                other = endOf(OTHERS, other, otherTo);
                if (at >= to || other >= otherTo) {
                    return (at < to ? 1 : 0) - (other < otherTo ? 1 : 0);
                }
                boolean digits = tape.bytes[at] < 'A';
                boolean otherDigits = tape.bytes[other] < 'A';
                if (digits != otherDigits) {
                    return digits ? -1 : 1;
                }
                int end = endOf(digits ? DIGITS : LETTERS, at, to);
                int otherEnd = endOf(digits ? DIGITS : LETTERS, other, otherTo);
                order = compareElements(at, end, other, otherEnd);
                at = end;
                other = otherEnd;
            }
            return order;
        }

        /** Where the bytes of one sort end that begin at a place. */
        private int endOf(int sort, int start, int to) {
            int at = start;
            boolean goesOn = true;
            while (at < to && goesOn) {
                int small = tape.bytes[at] | 32;
                int there = small >= 'a' && small <= 'z' ? LETTERS
                        : tape.bytes[at] >= '0' && tape.bytes[at] <= '9' ? DIGITS : OTHERS;
                goesOn = there == sort;
                at += goesOn ? 1 : 0;
            }
            return at;
        }

        private int compareElements(int from, int to, int otherFrom, int otherTo) {
            byte[] bytes = tape.bytes;
            int at = from;
            int other = otherFrom;
            boolean digits = bytes[at] < 'A';
            while (digits && at < to && bytes[at] == '0') {
                at++;
            }
            while (digits && other < otherTo && bytes[other] == '0') {
                other++;
            }
            int length = to - at;
            int otherLength = otherTo - other;
            if (digits && length != otherLength) {
                return length - otherLength;
            }
            for (int i = 0; i < length && i < otherLength; i++) {
                int difference = (bytes[at + i] | 32) - (bytes[other + i] | 32);
                if (difference != 0) {
                    return difference;
                }
            }
            return length - otherLength;
        }

        void addValues(Draft print, int tag, int record) {
            for (int field = 0; field < print.fields; field++) {
                int slot = print.slotOf(field, 'a');
                if (print.tag[field] == tag && slot != NONE) {
                    addValue(print.row[slot], record);
                }
            }
        }

        private void addValue(int row, int record) {
            for (int v = 0; v < values; v++) {
                if (tape.isSameRow(valueRow[v], row)) {
                    valueRecords[v] += valueLast[v] == record ? 0 : 1;
                    valueLast[v] = record;
                    return;
                }
            }
            if (values < valueRow.length) {
                valueRow[values] = row;
                valueRecords[values] = 1;
                valueLast[values] = record;
                values++;
            }
        }

        int valueOfRank(int rank) {
            for (int v = 0; v < values; v++) {
                int ahead = 0;
                for (int other = 0; other < values; other++) {
                    int more = valueRecords[other] - valueRecords[v];
                    if (more > 0 || more == 0
                            && tape.compareRows(valueRow[other], valueRow[v]) < 0) {
                        ahead++;
                    }
                }
                if (ahead == rank) {
                    return v;
                }
            }
            return NONE;
        }

        int openToken(int from, int to) {
            for (int token = 1; token <= TOKENS; token++) {
                if (!tokenUsed[token]) {
                    tokenUsed[token] = true;
                    tokenFrom[token] = from;
                    tokenTo[token] = to;
                    tokenDay[token] = NONE;
                    tokenRecord[token] = 0;
                    return token;
                }
            }
            return FULL;
        }

        int nextChanged(int token, Catalog catalog) {
            if (token < 1 || token > TOKENS || !tokenUsed[token]) {
                return NONE;
            }
            int best = 0;
            for (int record = 1; record <= catalog.records; record++) {
                int day = catalog.changed[record];
                boolean behind = day > tokenDay[token]
                        || day == tokenDay[token] && record > tokenRecord[token];
                if (day >= tokenFrom[token] && day <= tokenTo[token] && behind
                        && (best == 0 || day < catalog.changed[best])) {
                    best = record;
                }
            }
            tokenUsed[token] = best != 0;
            tokenRecord[token] = best;
            tokenDay[token] = catalog.changed[best];
            return best;
        }
    }

    /** TODAY, days that are CLOSED, and all that is told by lines of a text. */
    private static final class RuleBook {
        static final int LOAN = 0;
        static final int ROUTE = 1;
        static final int CHECK = 2;
        static final int KEEP = 3;
        static final int STEP = 4;
        private static final int[] MOST_LINES = {20, 12, 10, 8, STEPS};
        private static final int[] WIDTH = {7, 4, 3, 3, 4};
        private static final int LINE_ROOM = 140;
        /** Columns of a LOAN line behind KIND and TYPE. */
        static final int DAYS = 2;
        static final int RENEWALS = 3;
        static final int MOST = 4;
        static final int CENTS = 5;
        static final int CAP = 6;
        private static final int ANY = 5;
        private static final int MUST = 0;
        private static final int ONCE = 1;
        private static final int HAS = 2;
        private static final int DEL = 0;
        private static final int SET = 1;

        private final Tape tape;
        int today;
        boolean strict;
        private final int[] closedDay = new int[CLOSED_DAYS];
        private int closedDays;
        final int[][] line = new int[5][LINE_ROOM];
        final int[] lines = new int[5];
        /** A text that is WRONG further on must leave the lines as they were. */
        private final int[] newLine = new int[LINE_ROOM];
        /** The FIELDS that add STEPS tell. */
        private final Draft added = new Draft();
        private final int[] reached = new int[PLACES];

        RuleBook(Tape tape) {
            this.tape = tape;
        }

        void restart() {
            today = 0;
            strict = false;
            closedDays = 0;
            Arrays.fill(lines, 0);
        }

        int setStrict(boolean on) {
            if (strict == on) {
                return STATE;
            }
            strict = on;
            return 1;
        }

        int closeDay(int day) {
            if (day < 0 || day > LAST_DAY) {
                return RANGE;
            }
            if (isClosed(day)) {
                return STATE;
            }
            if (closedDays >= CLOSED_DAYS) {
                return FULL;
            }
            closedDay[closedDays] = day;
            closedDays++;
            return closedDays;
        }

        private boolean isClosed(int day) {
            return closedBetween(day - 1, day) > 0;
        }

        /** How many days behind one, up to another one, are CLOSED. */
        int closedBetween(int behind, int upTo) {
            int number = 0;
            for (int i = 0; i < closedDays; i++) {
                number += closedDay[i] > behind && closedDay[i] <= upTo ? 1 : 0;
            }
            return number;
        }

        int openDay(int from) {
            int day = from;
            for (int i = 0; i < CLOSED_DAYS && closedBetween(day - 1, day) > 0; i++) {
                day++;
            }
            return day;
        }

        /** Reads lines of a kind up to the end of the text, in place of those before. */
        int readLines(int kind) {
            int width = WIDTH[kind];
            int number = 0;
            added.fields = 0;
            while (number < MOST_LINES[kind] && (number == 0 || tape.peek() != NONE)) {
                int at = number * width;
                switch (kind) {
                    case LOAN: readLoanLine(at); break;
                    case ROUTE: readRouteLine(at); break;
                    case CHECK: readCheckLine(at); break;
                    case KEEP: readKeepLine(at); break;
                    default: readStep(at); break;
                }
                number++;
            }
            tape.takeEnd();
            if (!tape.isRight()) {
                return tape.refusal();
            }
            System.arraycopy(newLine, 0, line[kind], 0, number * width);
            lines[kind] = number;
            return number;
        }

        private void readLoanLine(int at) {
            newLine[at] = readSort();
            tape.takeByte(' ');
            newLine[at + 1] = readSort();
            tape.takeByte(' ');
            newLine[at + DAYS] = tape.takeNumber(1, 365);
            tape.takeByte(' ');
            newLine[at + RENEWALS] = tape.takeNumber(0, 9);
            tape.takeByte(' ');
            newLine[at + MOST] = tape.takeNumber(0, 99);
            tape.takeByte(' ');
            newLine[at + CENTS] = tape.takeNumber(0, 999);
            tape.takeByte(' ');
            newLine[at + CAP] = tape.takeNumber(0, 99999);
            tape.takeByte('\n');
        }

        private int readSort() {
            if (tape.peek() == '*') {
                tape.takeByte('*');
                return ANY;
            }
            return tape.takeBetween('0', '4');
        }

        private void readRouteLine(int at) {
            newLine[at] = tape.takeNumber(0, PLACES - 1);
            tape.takeByte(' ');
            newLine[at + 1] = tape.takeNumber(0, PLACES - 1);
            tape.takeByte(' ');
            newLine[at + 2] = readWeekdays();
            tape.takeByte(' ');
            newLine[at + 3] = tape.takeNumber(1, 9);
            tape.takeByte('\n');
        }

        private int readWeekdays() {
            int days = 0;
            int least = '0';
            for (int i = 0; i <= 7 && (i == 0 || isDigit(tape.peek())); i++) {
                if (tape.peek() < least) {
                    tape.stopHere();
                }
                int day = tape.takeBetween('0', '6');
                days |= 1 << day;
                least = '0' + day + 1;
            }
            return days;
        }

        private void readCheckLine(int at) {
            newLine[at] = tape.takeTag(1);
            tape.takeByte(' ');
            int kind = tape.takeWord("must|once|has|most");
            newLine[at + 1] = kind;
            if (kind >= HAS) {
                tape.takeByte(' ');
                newLine[at + 2] = kind == HAS ? tape.takeCode() : tape.takeNumber(1, ROW_BYTES);
            }
            tape.takeByte('\n');
        }

        private void readKeepLine(int at) {
            newLine[at] = tape.takeTag(FIRST_DATA_TAG);
            tape.takeByte(' ');
            newLine[at + 1] = tape.takeNumber(0, LAST_DAY);
            tape.takeByte(' ');
            newLine[at + 2] = tape.takeRow();
            tape.takeByte('\n');
        }

        private void readStep(int at) {
            int kind = tape.takeWord("del|set|add");
            tape.takeByte(' ');
            newLine[at] = kind;
            if (kind == DEL) {
                newLine[at + 1] = tape.takeTag(1);
            } else if (kind == SET) {
                newLine[at + 1] = tape.takeTag(FIRST_DATA_TAG);
                tape.takeByte(' ');
                newLine[at + 2] = tape.takeCode();
                tape.takeByte(' ');
                newLine[at + 3] = tape.takeRow();
            } else {
                newLine[at + 1] = added.fields;
                added.readField(tape);
                return;
            }
            tape.takeByte('\n');
        }

        void applyStep(int step, Draft draft) {
            int at = step * WIDTH[STEP];
            int[] told = line[STEP];
            switch (told[at]) {
                case DEL: draft.removeFields(told[at + 1]); break;
                case SET: draft.setRows(told[at + 1], told[at + 2], told[at + 3]); break;
                default: draft.appendField(added, told[at + 1]); break;
            }
        }

        /** Where THE RULE for a KIND and a TYPE begins among the LOAN lines, or NONE. */
        int ruleFor(int kind, int type) {
            for (int i = 0; i < lines[LOAN]; i++) {
                int at = i * WIDTH[LOAN];
                int lineKind = line[LOAN][at];
                int lineType = line[LOAN][at + 1];
                if ((lineKind == ANY || lineKind == kind)
                        && (lineType == ANY || lineType == type)) {
                    return at;
                }
            }
            return NONE;
        }

        /** The earliest day on which ROUTES bring what is SENT today from a place to another. */
        int arrivalDay(int from, int to) {
            Arrays.fill(reached, FAR);
            reached[from] = today;
            for (int round = 1; round < PLACES; round++) {
                for (int i = 0; i < lines[ROUTE]; i++) {
                    int at = i * WIDTH[ROUTE];
                    int day = reached[line[ROUTE][at]];
                    int goal = line[ROUTE][at + 1];
                    int weekdays = line[ROUTE][at + 2];
                    if (day != FAR) {
                        for (int k = 0; k < 7 && (weekdays >> day % 7 & 1) == 0; k++) {
                            day++;
                        }
                        reached[goal] = Math.min(reached[goal], day + line[ROUTE][at + 3]);
                    }
                }
            }
            return reached[to] == FAR ? today + SLOW_DAYS : reached[to];
        }

        boolean isAnyBroken(Draft draft) {
            boolean broken = false;
            for (int rule = 0; rule < lines[CHECK] && !broken; rule++) {
                broken = isBroken(rule, draft);
            }
            return broken;
        }

        boolean isBroken(int rule, Draft draft) {
            int at = rule * WIDTH[CHECK];
            int kind = line[CHECK][at + 1];
            int told = line[CHECK][at + 2];
            int fieldsWithTag = 0;
            boolean broken = false;
            for (int field = 0; field < draft.fields; field++) {
                if (draft.tag[field] == line[CHECK][at]) {
                    fieldsWithTag++;
                    broken = broken || kind == HAS && draft.slotOf(field, told) == NONE
                            || kind > HAS && draft.longestRow(field) > told;
                }
            }
            return broken || kind == MUST && fieldsWithTag == 0
                    || kind == ONCE && fieldsWithTag > 1;
        }

        /** DAYS of the first RETENTION line that FITS a PRINT, or NONE. */
        int daysToKeep(Draft print) {
            for (int i = 0; i < lines[KEEP]; i++) {
                int at = i * WIDTH[KEEP];
                for (int field = 0; field < print.fields; field++) {
                    int slot = print.slotOf(field, 'a');
                    if (print.tag[field] == line[KEEP][at] && slot != NONE
                            && tape.isSameRow(print.row[slot], line[KEEP][at + 2])) {
                        return line[KEEP][at + 1];
                    }
                }
            }
            return NONE;
        }
    }

    /** Readers, their LOANS and their BOOKINGS. */
    private static final class Readers {
        int readers;
        final int[] kind = new int[READERS + 1];
        final int[] owed = new int[READERS + 1];
        final int[] pickupPlace = new int[READERS + 1];
        int loans;
        final int[] borrower = new int[LOANS + 1];
        final int[] lentCopy = new int[LOANS + 1];
        final int[] dueOn = new int[LOANS + 1];
        final int[] renewals = new int[LOANS + 1];
        final int[] cents = new int[LOANS + 1];
        final int[] cap = new int[LOANS + 1];
        final boolean[] ended = new boolean[LOANS + 1];
        int bookings;
        final int[] booker = new int[BOOKINGS + 1];
        final int[] bookedCopy = new int[BOOKINGS + 1];
        final int[] bookedFrom = new int[BOOKINGS + 1];
        final int[] bookedTo = new int[BOOKINGS + 1];
        final boolean[] takenBack = new boolean[BOOKINGS + 1];

        void restart() {
            readers = 0;
            loans = 0;
            bookings = 0;
        }

        boolean has(int reader) {
            return reader >= 1 && reader <= readers;
        }

        int addReader(int ofKind) {
            if (ofKind < 0 || ofKind >= KINDS) {
                return RANGE;
            }
            if (readers >= READERS) {
                return FULL;
            }
            readers++;
            kind[readers] = ofKind;
            owed[readers] = 0;
            pickupPlace[readers] = 0;
            return readers;
        }

        int setPickup(int reader, int place) {
            if (!has(reader)) {
                return NONE;
            }
            if (place < 0 || place >= PLACES) {
                return RANGE;
            }
            pickupPlace[reader] = place;
            return 1;
        }

        /** What a reader OWES may be any number, so this answers 1 in its place. */
        int takeMoney(int reader, int sum) {
            if (!has(reader)) {
                return NONE;
            }
            if (sum < 1 || sum > 100000) {
                return RANGE;
            }
            owed[reader] -= sum;
            return 1;
        }

        boolean isBarred(int reader) {
            return owed[reader] >= BAR_CENTS;
        }

        int openLoans(int reader) {
            int number = 0;
            for (int loan = 1; loan <= loans; loan++) {
                number += borrower[loan] == reader && !ended[loan] ? 1 : 0;
            }
            return number;
        }

        int openLoansOf(int copy) {
            int number = 0;
            for (int loan = 1; loan <= loans; loan++) {
                number += lentCopy[loan] == copy && !ended[loan] ? 1 : 0;
            }
            return number;
        }

        int addLoan(int reader, int copy, int day) {
            loans++;
            borrower[loans] = reader;
            lentCopy[loans] = copy;
            dueOn[loans] = day;
            renewals[loans] = 0;
            ended[loans] = false;
            return loans;
        }

        boolean isOver(int booking, int today) {
            return takenBack[booking] || bookedTo[booking] < today;
        }

        boolean isBookedByOther(int copy, int reader, int today) {
            for (int booking = 1; booking <= bookings; booking++) {
                if (bookedCopy[booking] == copy && booker[booking] != reader
                        && bookedFrom[booking] <= today && !isOver(booking, today)) {
                    return true;
                }
            }
            return false;
        }

        /** The first day behind today on which a BOOKING by another reader begins. */
        int firstBookedByOther(int copy, int reader, int today) {
            int first = FAR;
            for (int booking = 1; booking <= bookings; booking++) {
                if (bookedCopy[booking] == copy && booker[booking] != reader
                        && bookedFrom[booking] > today && !takenBack[booking]) {
                    first = Math.min(first, bookedFrom[booking]);
                }
            }
            return first;
        }

        boolean isBookedBetween(int copy, int from, int to, int today) {
            for (int booking = 1; booking <= bookings; booking++) {
                if (bookedCopy[booking] == copy && !isOver(booking, today)
                        && bookedFrom[booking] <= to && bookedTo[booking] >= from) {
                    return true;
                }
            }
            return false;
        }

        int addBooking(int reader, int copy, int from, int to) {
            bookings++;
            booker[bookings] = reader;
            bookedCopy[bookings] = copy;
            bookedFrom[bookings] = from;
            bookedTo[bookings] = to;
            takenBack[bookings] = false;
            return bookings;
        }

        int takeBookingBack(int booking, int today) {
            if (booking < 1 || booking > bookings || isOver(booking, today)) {
                return NONE;
            }
            takenBack[booking] = true;
            return 1;
        }
    }

    /** Copies, what is done with them, and the QUEUES for them. */
    private static final class Lending {
        private static final long NO_MARK = 1000000000000L;
        private static final int DIGIT_TAILS = 11 * 11 * 11 * 11;
        private static final int LETTER_TAILS = 27 * 27 * 27;
        private final Catalog catalog;
        private final RuleBook rules;
        private final Readers readers;
        int copies;
        private final int[] ofRecord = new int[COPIES + 1];
        private final int[] type = new int[COPIES + 1];
        private final int[] status = new int[COPIES + 1];
        /** Who has a copy, or for whom it is on the SHELF or UNDER WAY; 0 if nobody. */
        private final int[] holder = new int[COPIES + 1];
        private final int[] loan = new int[COPIES + 1];
        /** UNTIL, or the day on which a copy ARRIVES. */
        private final int[] day = new int[COPIES + 1];
        private final int[] place = new int[COPIES + 1];
        private final int[] homePlace = new int[COPIES + 1];
        private final int[] sentTo = new int[COPIES + 1];
        private final long[] callNumber = new long[COPIES + 1];
        /** All QUEUES in one row, by ranks and then as they came. */
        int queued;
        private final int[] queueRecord = new int[QUEUED];
        private final int[] queueReader = new int[QUEUED];
        private final int[] queueRank = new int[QUEUED];

        Lending(Catalog catalog, RuleBook rules, Readers readers) {
            this.catalog = catalog;
            this.rules = rules;
            this.readers = readers;
        }

        void restart() {
            copies = 0;
            queued = 0;
        }

        private boolean has(int copy) {
            return copy >= 1 && copy <= copies;
        }

        private static boolean isPlace(int told) {
            return told >= 0 && told < PLACES;
        }

        // -- where copies go

        private void settle(int copy, int at) {
            place[copy] = at;
            loan[copy] = 0;
            direct(copy, takeFirstQueued(ofRecord[copy]));
        }

        /** A copy at its place goes to where a reader wants it or, for none (0), to its HOME. */
        private void direct(int copy, int reader) {
            int goal = reader == 0 ? homePlace[copy] : readers.pickupPlace[reader];
            if (goal != place[copy]) {
                sentTo[copy] = goal;
                setStatus(copy, IS_UNDER_WAY, reader, rules.arrivalDay(place[copy], goal));
            } else if (reader != 0) {
                setStatus(copy, IS_ON_SHELF, reader, rules.today + SHELF_DAYS);
            } else {
                setStatus(copy, IS_IN, 0, NONE);
            }
        }

        private void setStatus(int copy, int newStatus, int reader, int newDay) {
            status[copy] = newStatus;
            holder[copy] = reader;
            day[copy] = newDay;
        }

        int passTo(int newDay) {
            if (newDay < 0 || newDay > LAST_DAY) {
                return RANGE;
            }
            if (newDay <= rules.today) {
                return STATE;
            }
            rules.today = newDay;
            int moved = 0;
            for (int copy = firstArrival(); copy != 0 && moved < COPIES; copy = firstArrival()) {
                place[copy] = sentTo[copy];
                if (holder[copy] != 0) {
                    direct(copy, holder[copy]);
                } else {
                    settle(copy, place[copy]);
                }
                moved++;
            }
            for (int copy = 1; copy <= copies; copy++) {
                if (status[copy] == IS_ON_SHELF && day[copy] < newDay) {
                    settle(copy, place[copy]);
                    moved++;
                }
            }
            return moved;
        }

        /** Of the copies that are there by today the one that was there first, or 0. */
        private int firstArrival() {
            int first = 0;
            for (int copy = 1; copy <= copies; copy++) {
                if (status[copy] == IS_UNDER_WAY && day[copy] <= rules.today
                        && (first == 0 || day[copy] < day[first])) {
                    first = copy;
                }
            }
            return first;
        }

        int addCopy(int record, int ofType) {
            if (!catalog.isThere(record)) {
                return NONE;
            }
            if (ofType < 0 || ofType >= KINDS) {
                return RANGE;
            }
            if (copies >= COPIES) {
                return FULL;
            }
            copies++;
            ofRecord[copies] = record;
            type[copies] = ofType;
            homePlace[copies] = 0;
            callNumber[copies] = NO_MARK;
            settle(copies, 0);
            return copies;
        }

        int putAway(int copy) {
            if (!has(copy)) {
                return NONE;
            }
            if (status[copy] != IS_IN) {
                return STATE;
            }
            setStatus(copy, IS_AWAY, 0, NONE);
            return 1;
        }

        void putAllAway(int record) {
            for (int copy = 1; copy <= copies; copy++) {
                if (ofRecord[copy] == record && status[copy] == IS_IN) {
                    setStatus(copy, IS_AWAY, 0, NONE);
                }
            }
        }

        int setHome(int copy, int newHome) {
            if (!has(copy)) {
                return NONE;
            }
            if (!isPlace(newHome)) {
                return RANGE;
            }
            if (status[copy] == IS_AWAY) {
                return STATE;
            }
            homePlace[copy] = newHome;
            if (status[copy] == IS_IN) {
                settle(copy, place[copy]);
            }
            return 1;
        }

        // -- loans

        int lendTo(int reader, int copy) {
            if (!readers.has(reader) || !has(copy)) {
                return NONE;
            }
            boolean free = status[copy] == IS_IN
                    || status[copy] == IS_ON_SHELF && holder[copy] == reader;
            if (!free) {
                return NOT_TO_BE_HAD;
            }
            if (readers.isBookedByOther(copy, reader, rules.today)) {
                return BOOKED;
            }
            int rule = rules.ruleFor(readers.kind[reader], type[copy]);
            if (rule == NONE) {
                return NOT_BY_RULE;
            }
            if (readers.openLoans(reader) >= rules.line[RuleBook.LOAN][rule + RuleBook.MOST]) {
                return TOO_MANY;
            }
            if (readers.isBarred(reader)) {
                return BARRED;
            }
            if (readers.loans >= LOANS) {
                return FULL;
            }
            loan[copy] = readers.addLoan(reader, copy, dueDay(reader, copy, rule));
            setFine(loan[copy], rule);
            setStatus(copy, IS_LENT, reader, NONE);
            return loan[copy];
        }

        private int dueDay(int reader, int copy, int rule) {
            int days = rules.line[RuleBook.LOAN][rule + RuleBook.DAYS];
            int booked = readers.firstBookedByOther(copy, reader, rules.today);
            return Math.min(rules.openDay(rules.today + days), booked - 1);
        }

        private void setFine(int ofLoan, int rule) {
            readers.cents[ofLoan] = rules.line[RuleBook.LOAN][rule + RuleBook.CENTS];
            readers.cap[ofLoan] = rules.line[RuleBook.LOAN][rule + RuleBook.CAP];
        }

        int renewLoan(int told) {
            if (told < 1 || told > readers.loans || readers.ended[told]) {
                return NONE;
            }
            int reader = readers.borrower[told];
            int copy = readers.lentCopy[told];
            int rule = rules.ruleFor(readers.kind[reader], type[copy]);
            if (rule == NONE) {
                return NOT_BY_RULE;
            }
            if (queueLength(ofRecord[copy]) > 0) {
                return WAITED_FOR;
            }
            if (readers.renewals[told] >= rules.line[RuleBook.LOAN][rule + RuleBook.RENEWALS]) {
                return RENEWED_OUT;
            }
            if (readers.isBarred(reader)) {
                return BARRED;
            }
            readers.renewals[told]++;
            readers.dueOn[told] = Math.max(readers.dueOn[told], dueDay(reader, copy, rule));
            setFine(told, rule);
            return readers.dueOn[told];
        }

        int takeBack(int copy, int at) {
            if (!has(copy)) {
                return NONE;
            }
            if (!isPlace(at)) {
                return RANGE;
            }
            if (status[copy] != IS_LENT) {
                return STATE;
            }
            int fine = fineOf(loan[copy]);
            readers.owed[holder[copy]] += fine;
            readers.ended[loan[copy]] = true;
            settle(copy, at);
            return fine;
        }

        private int fineOf(int ofLoan) {
            int dueOn = readers.dueOn[ofLoan];
            int late = rules.today - dueOn - rules.closedBetween(dueOn, rules.today);
            return late <= 0 ? 0 : Math.min(readers.cap[ofLoan], late * readers.cents[ofLoan]);
        }

        int bookCopy(int reader, int copy, int from, int to) {
            if (!readers.has(reader) || !has(copy)) {
                return NONE;
            }
            if (from < rules.today || to < from || to > LAST_DAY || to - from > 30) {
                return RANGE;
            }
            boolean lent = status[copy] == IS_LENT && readers.dueOn[loan[copy]] >= from;
            if (lent || status[copy] == IS_AWAY
                    || readers.isBookedBetween(copy, from, to, rules.today)) {
                return STATE;
            }
            if (readers.bookings >= BOOKINGS) {
                return FULL;
            }
            return readers.addBooking(reader, copy, from, to);
        }

        // -- queues

        int enterQueue(int reader, int record, int rank) {
            if (!readers.has(reader) || !catalog.isThere(record)) {
                return NONE;
            }
            if (rank < 0 || rank > 9) {
                return RANGE;
            }
            if (queuedAt(reader, record) != NONE || copyFor(reader, record, true) != 0
                    || !hasCopyLeft(record)) {
                return STATE;
            }
            if (queued >= QUEUED) {
                return FULL;
            }
            int position = insertQueued(reader, record, rank);
            for (int copy = 1; copy <= copies; copy++) {
                if (ofRecord[copy] == record && status[copy] == IS_IN) {
                    settle(copy, place[copy]);
                    return 0;
                }
            }
            return position;
        }

        int leaveQueue(int reader, int record) {
            if (!readers.has(reader)) {
                return NONE;
            }
            int entry = queuedAt(reader, record);
            if (entry != NONE) {
                removeQueued(entry);
                return 1;
            }
            int copy = copyFor(reader, record, false);
            if (copy == 0) {
                return NONE;
            }
            if (status[copy] == IS_ON_SHELF) {
                settle(copy, place[copy]);
            } else {
                holder[copy] = 0;
            }
            return 1;
        }

        /** A copy on the SHELF or UNDER WAY for a reader, or perhaps one LENT to it; or 0. */
        private int copyFor(int reader, int record, boolean lentToo) {
            for (int copy = 1; copy <= copies; copy++) {
                if (ofRecord[copy] == record && holder[copy] == reader
                        && (lentToo || status[copy] != IS_LENT)) {
                    return copy;
                }
            }
            return 0;
        }

        /** Puts a reader behind all of its rank: its place in the QUEUE, from 1 on. */
        private int insertQueued(int reader, int record, int rank) {
            int at = queued;
            while (at > 0 && queueRank[at - 1] > rank) {
                queueRecord[at] = queueRecord[at - 1];
                queueReader[at] = queueReader[at - 1];
                queueRank[at] = queueRank[at - 1];
                at--;
            }
            queueRecord[at] = record;
            queueReader[at] = reader;
            queueRank[at] = rank;
            queued++;
            int position = 0;
            for (int i = 0; i <= at; i++) {
                position += queueRecord[i] == record ? 1 : 0;
            }
            return position;
        }

        private void removeQueued(int entry) {
            queued--;
            for (int i = entry; i < queued; i++) {
                queueRecord[i] = queueRecord[i + 1];
                queueReader[i] = queueReader[i + 1];
                queueRank[i] = queueRank[i + 1];
            }
        }

        private int takeFirstQueued(int record) {
            for (int i = 0; i < queued; i++) {
                if (queueRecord[i] == record) {
                    int reader = queueReader[i];
                    removeQueued(i);
                    return reader;
                }
            }
            return 0;
        }

        private int queuedAt(int reader, int record) {
            for (int i = 0; i < queued; i++) {
                if (queueRecord[i] == record && queueReader[i] == reader) {
                    return i;
                }
            }
            return NONE;
        }

        int queueLength(int record) {
            int length = 0;
            for (int i = 0; i < queued; i++) {
                length += queueRecord[i] == record ? 1 : 0;
            }
            return length;
        }

        int queuedReader(int record, int rank) {
            int ahead = 0;
            for (int i = 0; i < queued; i++) {
                if (queueRecord[i] == record) {
                    if (ahead == rank) {
                        return queueReader[i];
                    }
                    ahead++;
                }
            }
            return NONE;
        }

        // -- call numbers and shelves

        int setMark(int copy, Tape tape) {
            if (!has(copy)) {
                return NONE;
            }
            long told = tape.takeNumber(0, 999);
            boolean hasDigits = tape.peek() == '.';
            tape.at += hasDigits ? 1 : 0;
            told = told * DIGIT_TAILS + (hasDigits ? readTail(tape, '0', '9', 4) : 0);
            boolean hasLetters = tape.peek() == ' ';
            tape.at += hasLetters ? 1 : 0;
            told = told * LETTER_TAILS + (hasLetters ? readTail(tape, 'A', 'Z', 3) : 0);
            tape.takeEnd();
            if (!tape.isRight()) {
                return tape.refusal();
            }
            callNumber[copy] = told;
            return 1;
        }

        /** Bytes of a range, one at least, as a number that is ordered as they are. */
        private static long readTail(Tape tape, int low, int high, int most) {
            long tail = 0;
            boolean goesOn = true;
            for (int i = 0; i < most; i++) {
                int b = tape.peek();
                goesOn = i == 0 || goesOn && b >= low && b <= high;
                tail = tail * (high - low + 2) + (goesOn ? tape.takeBetween(low, high) + 1 : 0);
            }
            return tail;
        }

        int shelved(int at, int rank) {
            for (int copy = 1; copy <= copies; copy++) {
                if (isInAt(copy, at) && shelvedAhead(copy, at) == rank) {
                    return copy;
                }
            }
            return NONE;
        }

        private boolean isInAt(int copy, int at) {
            return status[copy] == IS_IN && place[copy] == at;
        }

        private int shelvedAhead(int copy, int at) {
            int ahead = 0;
            for (int other = 1; other <= copies; other++) {
                boolean first = callNumber[other] < callNumber[copy]
                        || callNumber[other] == callNumber[copy] && other < copy;
                ahead += first && isInAt(other, at) ? 1 : 0;
            }
            return ahead;
        }

        // -- what is asked

        int tellState(int copy, int what) {
            if (!has(copy)) {
                return NONE;
            }
            switch (what) {
                case 0: return status[copy];
                case 1: return holder[copy];
                case 2: return loan[copy];
                case 3: return status[copy] == IS_LENT ? readers.dueOn[loan[copy]] : day[copy];
                default: return NONE;
            }
        }

        int tellPlace(int copy, int what) {
            if (!has(copy)) {
                return NONE;
            }
            switch (what) {
                case 0: return place[copy];
                case 1: return homePlace[copy];
                case 2: return status[copy] == IS_UNDER_WAY ? sentTo[copy] : NONE;
                default: return NONE;
            }
        }

        boolean hasCopyLeft(int record) {
            for (int copy = 1; copy <= copies; copy++) {
                if (ofRecord[copy] == record && status[copy] != IS_AWAY) {
                    return true;
                }
            }
            return false;
        }

        /** Whether anybody waits for a record or booked a copy, or one is not IN nor AWAY. */
        boolean isInUse(int record) {
            boolean inUse = queueLength(record) > 0;
            for (int copy = 1; copy <= copies; copy++) {
                if (ofRecord[copy] == record) {
                    inUse = inUse || status[copy] != IS_IN && status[copy] != IS_AWAY
                            || readers.isBookedBetween(copy, 0, LAST_DAY, rules.today);
                }
            }
            return inUse;
        }

        int copiesUnderWay() {
            int number = 0;
            for (int copy = 1; copy <= copies; copy++) {
                number += status[copy] == IS_UNDER_WAY ? 1 : 0;
            }
            return number;
        }

        int wronglyLent() {
            int number = 0;
            for (int copy = 1; copy <= copies; copy++) {
                number += status[copy] == IS_LENT && readers.openLoansOf(copy) != 1 ? 1 : 0;
            }
            return number;
        }

        int wronglyIn() {
            int number = 0;
            for (int copy = 1; copy <= copies; copy++) {
                number += status[copy] == IS_IN && queueLength(ofRecord[copy]) > 0 ? 1 : 0;
            }
            return number;
        }

        int wronglyQueued() {
            int number = 0;
            for (int reader = 1; reader <= readers.readers; reader++) {
                boolean wrong = false;
                for (int i = 0; i < queued; i++) {
                    wrong = wrong || queueReader[i] == reader
                            && (queuedAt(reader, queueRecord[i]) != i
                            || copyFor(reader, queueRecord[i], true) != 0);
                }
                number += wrong ? 1 : 0;
            }
            return number;
        }
    }

    /** Serials with their ISSUES, funds and orders. */
    private static final class Buying {
        private static final int IS_OPEN = 0;
        private static final int IS_CHARGED = 1;
        private static final int IS_CANCELLED = 2;
        private static final int CLAIM_DAYS = 10;
        private int serials;
        private final int[] ofRecord = new int[SERIALS + 1];
        private final int[] volumeSize = new int[SERIALS + 1];
        private final int[] issues = new int[SERIALS + 1];
        private final int[] issueDay = new int[(SERIALS + 1) * ISSUES];
        private final int[] cameOn = new int[(SERIALS + 1) * ISSUES];
        /** How far claimOfRank() has gone along each serial. */
        private final int[] claimed = new int[SERIALS + 1];
        private int funds;
        private final int[] given = new int[FUNDS + 1];
        private final int[] encumbered = new int[FUNDS + 1];
        private final int[] spent = new int[FUNDS + 1];
        int orders;
        private final int[] orderFund = new int[ORDERS + 1];
        private final int[] orderCents = new int[ORDERS + 1];
        private final int[] orderState = new int[ORDERS + 1];

        void restart() {
            serials = 0;
            funds = 0;
            orders = 0;
        }

        boolean hasSerial(int record) {
            for (int serial = 1; serial <= serials; serial++) {
                if (ofRecord[serial] == record) {
                    return true;
                }
            }
            return false;
        }

        int addSerial(int record, Tape tape, int today) {
            tape.takeWord("every ");
            int step = tape.takeNumber(1, 366);
            int skipped = 0;
            int volume = 0;
            int part = tape.peek() == NONE ? NONE : tape.takeWord(" skip | volume ");
            if (part == 0) {
                skipped = readMonths(tape);
                part = tape.peek() == NONE ? NONE : tape.takeWord(" volume ") + 1;
            }
            if (part == 1) {
                volume = tape.takeNumber(1, 99);
            }
            tape.takeEnd();
            if (!tape.isRight()) {
                return tape.refusal();
            }
            if (serials >= SERIALS) {
                return FULL;
            }
            serials++;
            ofRecord[serials] = record;
            volumeSize[serials] = volume;
            foretell(step, skipped, today);
            return serials;
        }

        private static int readMonths(Tape tape) {
            int months = 0;
            int least = 0;
            for (int i = 0; i <= 12 && (i == 0 || tape.peek() == ','); i++) {
                if (i > 0) {
                    tape.takeByte(',');
                }
                int month = tape.takeNumber(least, 11);
                months |= 1 << month;
                least = month + 1;
            }
            return months;
        }

        private void foretell(int step, int skipped, int today) {
            int number = 0;
            for (int day = today; day <= LAST_DAY && number < ISSUES; day += Math.max(1, step)) {
                if ((skipped >> day / 30 % 12 & 1) == 0) {
                    issueDay[serials * ISSUES + number] = day;
                    cameOn[serials * ISSUES + number] = NONE;
                    number++;
                }
            }
            issues[serials] = number;
        }

        private boolean hasIssue(int serial, int i) {
            return serial >= 1 && serial <= serials && i >= 0 && i < issues[serial];
        }

        int tellIssue(int serial, int i, int what) {
            if (!hasIssue(serial, i)) {
                return NONE;
            }
            int size = volumeSize[serial];
            switch (what) {
                case 0: return issueDay[serial * ISSUES + i];
                case 1: return size > 0 ? i % size + 1 : i + 1;
                case 2: return size > 0 ? i / size + 1 : 0;
                case 3: return cameOn[serial * ISSUES + i];
                default: return NONE;
            }
        }

        int receive(int serial, int i, int today) {
            if (!hasIssue(serial, i)) {
                return NONE;
            }
            if (cameOn[serial * ISSUES + i] != NONE) {
                return STATE;
            }
            cameOn[serial * ISSUES + i] = today;
            return 1;
        }

        /** The days of each serial go up, so the CLAIMS are found by going along all at once. */
        int claimOfRank(int rank, int today) {
            Arrays.fill(claimed, 0);
            for (int ahead = 0; ahead <= SERIALS * ISSUES; ahead++) {
                int first = 0;
                for (int serial = 1; serial <= serials; serial++) {
                    goToClaim(serial, today);
                    int i = claimed[serial];
                    if (i < issues[serial] && (first == 0 || issueDay[serial * ISSUES + i]
                            < issueDay[first * ISSUES + claimed[first]])) {
                        first = serial;
                    }
                }
                if (first == 0 || rank < 0) {
                    return NONE;
                }
                if (ahead == rank) {
                    return 1000 * first + claimed[first];
                }
                claimed[first]++;
            }
            return NONE;
        }

        /** Passes by what came, and all if the day of what is next is too late for a CLAIM. */
        private void goToClaim(int serial, int today) {
            int i = claimed[serial];
            while (i < issues[serial] && cameOn[serial * ISSUES + i] != NONE) {
                i++;
            }
            boolean late = i < issues[serial]
                    && issueDay[serial * ISSUES + i] + CLAIM_DAYS < today;
            claimed[serial] = late ? i : issues[serial];
        }

        private boolean hasFund(int fund) {
            return fund >= 1 && fund <= funds;
        }

        private int freeCents(int fund) {
            return given[fund] - encumbered[fund] - spent[fund];
        }

        int addFund(int cents) {
            if (cents < 0 || cents > MOST_CENTS) {
                return RANGE;
            }
            if (funds >= FUNDS) {
                return FULL;
            }
            funds++;
            given[funds] = cents;
            encumbered[funds] = 0;
            spent[funds] = 0;
            return funds;
        }

        int addOrder(int fund, int cents) {
            if (!hasFund(fund)) {
                return NONE;
            }
            if (cents < 1 || cents > MOST_CENTS) {
                return RANGE;
            }
            if (cents > freeCents(fund)) {
                return NOT_TO_BE_HAD;
            }
            if (orders >= ORDERS) {
                return FULL;
            }
            orders++;
            orderFund[orders] = fund;
            orderCents[orders] = cents;
            orderState[orders] = IS_OPEN;
            encumbered[fund] += cents;
            return orders;
        }

        int chargeOrder(int order, int cents) {
            if (order < 1 || order > orders) {
                return NONE;
            }
            if (cents < 0 || cents > MOST_CENTS) {
                return RANGE;
            }
            if (orderState[order] != IS_OPEN) {
                return STATE;
            }
            int fund = orderFund[order];
            if (cents - orderCents[order] > freeCents(fund)) {
                return NOT_TO_BE_HAD;
            }
            encumbered[fund] -= orderCents[order];
            spent[fund] += cents;
            orderState[order] = IS_CHARGED;
            return freeCents(fund);
        }

        int cancelOrder(int order) {
            if (order < 1 || order > orders) {
                return NONE;
            }
            if (orderState[order] != IS_OPEN) {
                return STATE;
            }
            encumbered[orderFund[order]] -= orderCents[order];
            orderState[order] = IS_CANCELLED;
            return freeCents(orderFund[order]);
        }

        int moveMoney(int fund, int other, int cents) {
            if (!hasFund(fund) || !hasFund(other)) {
                return NONE;
            }
            if (cents < 1 || cents > MOST_CENTS) {
                return RANGE;
            }
            if (fund == other) {
                return STATE;
            }
            if (cents > freeCents(fund)) {
                return NOT_TO_BE_HAD;
            }
            given[fund] -= cents;
            given[other] += cents;
            return 1;
        }

        int tellMoney(int fund, int what) {
            if (!hasFund(fund)) {
                return NONE;
            }
            switch (what) {
                case 0: return given[fund];
                case 1: return encumbered[fund];
                case 2: return spent[fund];
                case 3: return freeCents(fund);
                default: return NONE;
            }
        }

        int overspentFunds() {
            int number = 0;
            for (int fund = 1; fund <= funds; fund++) {
                number += freeCents(fund) < 0 ? 1 : 0;
            }
            return number;
        }
    }

    /** PACKAGES and their copies on STORES. */
    private static final class Stores {
        int packages;
        private final int[] length = new int[PACKAGES + 1];
        private final boolean[] silent = new boolean[STORES];
        private final boolean[] present = new boolean[(PACKAGES + 1) * STORES];
        private final byte[] bytes = new byte[(PACKAGES + 1) * STORES * PACKAGE_BYTES];

        void restart() {
            packages = 0;
            for (int store = 0; store < STORES; store++) {
                silent[store] = false;
            }
        }

        private boolean has(int pack) {
            return pack >= 1 && pack <= packages;
        }

        private boolean hasCopy(int pack, int store) {
            return has(pack) && store >= 0 && store < STORES && present[pack * STORES + store];
        }

        private static int startOf(int pack, int store) {
            return (pack * STORES + store) * PACKAGE_BYTES;
        }

        int copiesOn(int store) {
            int number = 0;
            for (int pack = 1; pack <= packages; pack++) {
                number += present[pack * STORES + store] ? 1 : 0;
            }
            return number;
        }

        private int copiesOf(int pack) {
            int number = 0;
            for (int store = 0; store < STORES; store++) {
                number += present[pack * STORES + store] ? 1 : 0;
            }
            return number;
        }

        /** The store that ANSWERS, has no copy, and has the least LOAD; or NONE. */
        private int nextStore(int pack) {
            int best = NONE;
            for (int store = 0; store < STORES; store++) {
                boolean may = !silent[store] && !present[pack * STORES + store];
                if (may && (best == NONE || copiesOn(store) < copiesOn(best))) {
                    best = store;
                }
            }
            return best;
        }

        int addPackage(Tape tape) {
            int size = tape.to - tape.from;
            if (size < 1 || size > PACKAGE_BYTES) {
                return RANGE;
            }
            int answering = 0;
            for (int store = 0; store < STORES; store++) {
                answering += silent[store] ? 0 : 1;
            }
            if (answering < PACKAGE_COPIES) {
                return STATE;
            }
            if (packages >= PACKAGES) {
                return FULL;
            }
            packages++;
            length[packages] = size;
            for (int store = 0; store < STORES; store++) {
                present[packages * STORES + store] = false;
            }
            for (int i = 0; i < PACKAGE_COPIES; i++) {
                int store = nextStore(packages);
                if (store != NONE) {
                    System.arraycopy(tape.bytes, tape.from, bytes, startOf(packages, store), size);
                    present[packages * STORES + store] = true;
                }
            }
            return packages;
        }

        int setAnswering(int store, boolean on) {
            if (store < 0 || store >= STORES) {
                return NONE;
            }
            if (silent[store] != on) {
                return STATE;
            }
            silent[store] = !on;
            return 1;
        }

        int alterByte(int pack, int store, int i, int b) {
            if (!hasCopy(pack, store) || i < 0 || i >= length[pack]) {
                return NONE;
            }
            int at = startOf(pack, store) + i;
            int before = bytes[at] & 255;
            bytes[at] = (byte) b;
            return before;
        }

        int loseCopy(int pack, int store) {
            if (!hasCopy(pack, store)) {
                return NONE;
            }
            present[pack * STORES + store] = false;
            return 1;
        }

        private boolean isSameOn(int pack, int store, int other) {
            int start = startOf(pack, store);
            int otherStart = startOf(pack, other);
            for (int i = 0; i < length[pack]; i++) {
                if (bytes[start + i] != bytes[otherStart + i]) {
                    return false;
                }
            }
            return true;
        }

        /** A store that has THE MAJORITY of a package, or NONE. */
        private int majorityStore(int pack) {
            for (int store = 0; store < STORES; store++) {
                int same = 0;
                int others = 0;
                for (int other = 0; other < STORES; other++) {
                    if (isHeard(pack, other)) {
                        boolean equal = isSameOn(pack, store, other);
                        same += equal ? 1 : 0;
                        others += equal ? 0 : 1;
                    }
                }
                if (isHeard(pack, store) && same > others) {
                    return store;
                }
            }
            return NONE;
        }

        private boolean isHeard(int pack, int store) {
            return !silent[store] && present[pack * STORES + store];
        }

        int mendPackage(int pack) {
            if (!has(pack)) {
                return NONE;
            }
            int model = majorityStore(pack);
            if (model == NONE) {
                return STATE;
            }
            int mended = 0;
            for (int store = 0; store < STORES; store++) {
                if (isHeard(pack, store) && !isSameOn(pack, store, model)) {
                    copyBytes(pack, model, store);
                    mended++;
                }
            }
            int store = nextStore(pack);
            for (int copies = copiesOf(pack); copies < PACKAGE_COPIES && store != NONE; copies++) {
                copyBytes(pack, model, store);
                present[pack * STORES + store] = true;
                mended++;
                store = nextStore(pack);
            }
            return mended;
        }

        private void copyBytes(int pack, int from, int to) {
            System.arraycopy(bytes, startOf(pack, from), bytes, startOf(pack, to), length[pack]);
        }

        int octetOf(int pack, int i) {
            if (!has(pack)) {
                return NONE;
            }
            int model = majorityStore(pack);
            if (model == NONE) {
                return STATE;
            }
            return i >= 0 && i < length[pack] ? bytes[startOf(pack, model) + i] & 255 : NONE;
        }
    }
}
