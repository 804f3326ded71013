import java.util.Arrays;

/** A house for sealed lines: functions, forms, paths, ends, lines, an office, logs. */
public final class SecureLines {
    public static final int BAD = -1, NO = -2, FULL = -3, NONE = -4;

    private static final int TAPE_MOST = 800;
    private static final int ROW_MOST = 6;
    private static final int ENDS_MOST = 8;
    private static final int CONNECTIONS_MOST = 12;
    private static final int OFFICES_MOST = 4;
    private static final int ZONE_MOST = 16;
    private static final int LOGS_MOST = 4;
    private static final int ENTRIES_MOST = 64;
    /** More HEADS than a way down among 64 entries passes. */
    private static final int PROOF_MOST = 7;
    private static final int MINUTES_MOST = 1000000;
    private static final int TIME_MOST = 2000000000;

    private final House house = new House();
    private final Row tape = new Row(64);
    private final Row out = new Row(64);
    private final int[] row = new int[ROW_MOST];
    private int rowSize;
    private final End[] ends = new End[ENDS_MOST];
    private int endCount;
    /** Of connection c the client stands at 2 c, the server behind it; null is the caller. */
    private final Side[] sides = new Side[2 * CONNECTIONS_MOST];
    private int connectionCount;
    private final Office[] offices = new Office[OFFICES_MOST];
    private int officeCount;
    private final Row[] zoneNames = new Row[ZONE_MOST];
    private final long[] zoneSecrets = new long[ZONE_MOST];
    private int zoneCount;
    private final long[][] logs = new long[LOGS_MOST][ENTRIES_MOST];
    private final int[] logSizes = new int[LOGS_MOST];
    private int logCount;
    /** Ahead the HEADS of which one is made, from 8 on those that were found for a proof. */
    private final long[] knots = new long[16];

    public SecureLines() {
    }

    // ---- THE TAPE, OUT, TIME

    public int feed(int n, long w) {
        if (n < 1 || n > 8) {
            return BAD;
        }
        if (tape.size + n > TAPE_MOST) {
            return FULL;
        }
        for (int i = n - 1; i >= 0; i--) {
            tape.put((int) (w >>> 8 * i));
        }
        return tape.size;
    }

    public int cut(int n) {
        if (n < 0 || n > tape.size) {
            return BAD;
        }
        int gone = tape.size - n;
        tape.size = n;
        return gone;
    }

    public int out(int i) {
        if (i < -1 || i >= out.size) {
            return BAD;
        }
        return i == -1 ? out.size : out.at(i);
    }

    public int again() {
        if (tape.size + out.size > TAPE_MOST) {
            return FULL;
        }
        tape.take(out.bytes, 0, out.size);
        return tape.size;
    }

    public int tick(int n) {
        if (n < 0 || n > MINUTES_MOST) {
            return BAD;
        }
        if (house.time > TIME_MOST - n) {
            return NO;
        }
        house.time += n;
        return house.time;
    }

    // ---- functions

    public long digest(int h) {
        if (!isHash(h)) {
            return BAD;
        }
        long got = house.mill.digestOf(h, tape.bytes, 0, tape.size);
        tape.clear();
        return got;
    }

    public long keyed(int h, long k) {
        if (!isHash(h)) {
            return BAD;
        }
        long got = house.mill.keyedBytes(h, k, tape.bytes, 0, tape.size);
        tape.clear();
        return got;
    }

    public long derived(int h, long k, int letter, long d) {
        if (!isHash(h) || letter < 0 || letter > 255) {
            return BAD;
        }
        return house.mill.derive(h, k, letter, d);
    }

    public int seal(int suite, long k, long m, int data) {
        if (suite < 1 || suite > 3 || data < 0 || data > tape.size) {
            return BAD;
        }
        int h = Mill.hashOf(suite);
        house.mill.stream(k, m, tape.bytes, data, tape.size);
        long tag = house.mill.tag(h, house.mill.derive(h, k, 't', m), tape, data, tape.size);
        out.clear();
        out.take(tape.bytes, data, tape.size);
        out.putHighest(tag, Mill.tagSize(suite));
        tape.clear();
        return out.size;
    }

    public int unseal(int suite, long k, long m, int data) {
        if (suite < 1 || suite > 3 || data < 0 || data > tape.size) {
            return BAD;
        }
        boolean opened = house.mill.opens(suite, k, m, tape, data);
        if (opened) {
            out.clear();
            out.take(tape.bytes, data, tape.size);
        }
        tape.clear();
        return opened ? 1 : 0;
    }

    public int point(int group, int x) {
        if (group < 1 || group > 3 || x < 0) {
            return BAD;
        }
        return house.mill.groupPoint(group, x);
    }

    public long joint(int group, int x, int y) {
        if (group < 1 || group > 3 || x < 0) {
            return BAD;
        }
        return house.mill.jointOf(group, x, y);
    }

    public int keyPoint(int x) {
        return isKey(x) ? house.mill.schemePoint(x) : BAD;
    }

    public long sign(int scheme, int x) {
        if (!isScheme(scheme) || !isKey(x)) {
            return BAD;
        }
        long got = house.mill.signed(scheme, x, tape.bytes, 0, tape.size);
        tape.clear();
        return got;
    }

    public int fits(int scheme, int y, long signature) {
        if (!isScheme(scheme)) {
            return BAD;
        }
        boolean good = house.mill.proves(scheme, y, signature, tape.bytes, 0, tape.size);
        tape.clear();
        return good ? 1 : 0;
    }

    private static boolean isHash(int h) {
        return h == 0 || h == 1;
    }

    private static boolean isScheme(int scheme) {
        return scheme == 1 || scheme == 2;
    }

    private static boolean isKey(int x) {
        return x >= 1 && x < Mill.Q;
    }

    // ---- forms

    public int node() {
        int fault = Paper.fault(tape.bytes, 0, tape.size, house.stack);
        tape.clear();
        return fault < 0 ? 0 : -10 - fault;
    }

    public int wrap(int scheme, int x) {
        if (!isScheme(scheme) || !isKey(x)) {
            return BAD;
        }
        int inside = tape.size + Row.SIGNATURE_NODE;
        if (inside + Row.headerSize(inside) > TAPE_MOST) {
            return FULL;
        }
        Row whole = house.message;
        house.wrapRow(tape, scheme, x, whole);
        tape.clear();
        tape.take(whole.bytes, 0, whole.size);
        return tape.size;
    }

    public int certificate() {
        return paper(Paper.CERTIFICATE);
    }

    public int list() {
        return paper(Paper.LIST);
    }

    public int answer() {
        return paper(Paper.ANSWER);
    }

    private int paper(int kind) {
        int fault = Paper.fault(tape.bytes, 0, tape.size, house.stack);
        int got = fault >= 0 ? -10 - fault : house.hold(kind, tape);
        if (got != FULL) {
            tape.clear();
        }
        return got;
    }

    public int field(int c, int what) {
        if (!isCertificate(c) || what < 0 || what > 11) {
            return BAD;
        }
        return house.papers[c].numbers[what];
    }

    public int text(int c, int what, int k) {
        if (!isCertificate(c)) {
            return BAD;
        }
        Paper paper = house.papers[c];
        int from = 0;
        int to = paper.numbers[Paper.SIZE];
        if (what >= 8 && what <= 10 && k >= 0 && k < paper.numbers[what]) {
            int slot = Paper.NAMES + 4 * (what - 8) + k;
            from = paper.start(slot);
            to = paper.stop(slot);
        } else if (what == 0 || what == 1) {
            from = paper.start(what);
            to = paper.stop(what);
        } else if (what != 11) {
            return BAD;
        }
        out.clear();
        out.take(paper.bytes, from, to);
        return out.size;
    }

    private boolean isCertificate(int c) {
        return c >= 0 && c < house.paperCount;
    }

    // ---- paths

    public int row(int c) {
        if (!isCertificate(c)) {
            return BAD;
        }
        if (rowSize >= ROW_MOST) {
            return FULL;
        }
        row[rowSize] = c;
        rowSize++;
        return rowSize;
    }

    public int judge(int e, int time, int use) {
        if (!isEnd(e) || use < 0 || use > 2 || rowSize == 0) {
            return BAD;
        }
        house.pathSize = rowSize;
        for (int i = 0; i < rowSize; i++) {
            house.path[i] = house.papers[row[i]];
        }
        rowSize = 0;
        house.stapled = false;
        return house.isPath(ends[e]) ? house.why(ends[e], time, use) : -5;
    }

    public int build(int e, int c, int time, int use) {
        if (!isEnd(e) || !isCertificate(c) || use < 0 || use > 2) {
            return BAD;
        }
        rowSize = house.findPath(ends[e], c, time, use);
        for (int i = 0; i < rowSize; i++) {
            row[i] = house.path[i].number;
        }
        return rowSize;
    }

    public int step(int i) {
        if (i < -1 || i >= rowSize) {
            return BAD;
        }
        return i == -1 ? rowSize : row[i];
    }

    public int status(int c, int i, int time) {
        if (!isCertificate(c) || !isCertificate(i)) {
            return BAD;
        }
        house.stapled = false;
        return house.standing(house.papers[c], house.papers[i], time);
    }

    // ---- ends

    public int end(int role) {
        if (role != 0 && role != 1) {
            return BAD;
        }
        if (endCount >= ENDS_MOST) {
            return FULL;
        }
        ends[endCount] = new End(role == 1);
        endCount++;
        return endCount - 1;
    }

    private boolean isEnd(int e) {
        return e >= 0 && e < endCount;
    }

    private boolean isClient(int e) {
        return isEnd(e) && !ends[e].server;
    }

    public int offer(int e, int what, int row) {
        if (!isEnd(e) || what < 0 || what > 2) {
            return BAD;
        }
        int count = End.countOf(row, what == End.SCHEMES ? 2 : 3);
        if (count == 0) {
            return BAD;
        }
        ends[e].offerAll(what, row);
        return count;
    }

    public int setting(int e, int what, int v) {
        if (!isEnd(e) || !ends[e].mayBe(what, v)) {
            return BAD;
        }
        int was = ends[e].settings[what];
        ends[e].settings[what] = v;
        return was;
    }

    public int random(int e) {
        if (!isEnd(e)) {
            return BAD;
        }
        Row tapeOfEnd = ends[e].tape;
        if (tapeOfEnd.size + tape.size > End.TAPE_MOST) {
            return FULL;
        }
        tapeOfEnd.take(tape.bytes, 0, tape.size);
        tape.clear();
        return tapeOfEnd.size;
    }

    public int trust(int e, int c) {
        if (!isEnd(e) || !isCertificate(c)) {
            return BAD;
        }
        return ends[e].anchor(c);
    }

    public int identity(int e, int x) {
        if (!isEnd(e) || !isKey(x)) {
            return BAD;
        }
        if (rowSize < 1 || rowSize > 4) {
            return NO;
        }
        if (house.papers[row[0]].numbers[Paper.POINT] != house.mill.schemePoint(x)) {
            return NO;
        }
        End end = ends[e];
        for (int i = 0; i < rowSize; i++) {
            end.identity[i] = row[i];
        }
        end.identityCount = rowSize;
        end.key = x;
        rowSize = 0;
        return end.identityCount;
    }

    public int host(int e) {
        if (!isClient(e)) {
            return BAD;
        }
        if (Paper.nameFault(tape.bytes, 0, tape.size) >= 0) {
            return NO;
        }
        ends[e].host.clear();
        ends[e].host.take(tape.bytes, 0, tape.size);
        tape.clear();
        return 1;
    }

    public int shared(int e, int h, long secret) {
        if (!isEnd(e) || !isHash(h)) {
            return BAD;
        }
        if (tape.size < 1 || tape.size > 16) {
            return NO;
        }
        if (ends[e].secretCount >= End.SECRETS_MOST) {
            return FULL;
        }
        ends[e].keep(new Shared(tape, h, secret));
        tape.clear();
        return ends[e].secretCount;
    }

    public int forget(int e, int k) {
        if (!isEnd(e) || k < 0 || k >= ends[e].secretCount) {
            return BAD;
        }
        return ends[e].lose(k);
    }

    public int ticket(int e, int k, int what) {
        if (!isEnd(e) || k < 0 || k >= ends[e].secretCount || what < 0 || what > 5) {
            return BAD;
        }
        Shared secret = ends[e].secrets[k];
        out.clear();
        out.take(secret.id, 0, secret.id.length);
        return secret.fact(what);
    }

    public int early(int e) {
        if (!isClient(e)) {
            return BAD;
        }
        if (tape.size > End.EARLY_MOST) {
            return NO;
        }
        ends[e].early.clear();
        ends[e].early.take(tape.bytes, 0, tape.size);
        tape.clear();
        return ends[e].early.size;
    }

    // ---- lines

    public int connection(int client, int server) {
        boolean clientGood = client == -1 || isClient(client);
        boolean serverGood = server == -1 || isEnd(server) && ends[server].server;
        if (!clientGood || !serverGood || client == -1 && server == -1) {
            return BAD;
        }
        if (connectionCount >= CONNECTIONS_MOST) {
            return FULL;
        }
        int c = connectionCount;
        connectionCount++;
        if (server != -1) {
            sides[2 * c + 1] = new Server(house, ends[server]);
        }
        if (client != -1) {
            Client side = new Client(house, ends[client]);
            sides[2 * c] = side;
            side.greet();
        }
        return c;
    }

    private boolean isSide(int c, int side) {
        return c >= 0 && c < connectionCount && (side == 0 || side == 1);
    }

    /** The side that handles what comes, or null: the caller, or none such. */
    private Side sideOf(int c, int side) {
        return isSide(c, side) ? sides[2 * c + side] : null;
    }

    public int give(int c, int side) {
        if (!isSide(c, side)) {
            return BAD;
        }
        Side to = sideOf(c, side);
        if (to == null) {
            return NO;
        }
        if (to.line.size > Side.GIVE_MOST) {
            return FULL;
        }
        to.arrive(tape.bytes, 0, tape.size);
        tape.clear();
        return to.line.size;
    }

    public int bring(int c, int side, int n) {
        if (!isSide(c, side) || n < 1 || n > 8000) {
            return BAD;
        }
        Side from = sideOf(c, side);
        Side to = sideOf(c, 1 - side);
        if (to != null && to.line.size > Side.BRING_MOST) {
            return FULL;
        }
        int count = from == null ? 0 : Math.min(n, from.line.size);
        if (to == null) {
            count = Math.min(count, TAPE_MOST);
            out.clear();
            if (from != null) {
                out.take(from.line.bytes, 0, count);
            }
        } else if (from != null) {
            to.arrive(from.line.bytes, 0, count);
        }
        if (from != null) {
            from.line.drop(count);
        }
        return count;
    }

    public int line(int c, int side, int i) {
        Side of = sideOf(c, side);
        int waiting = of == null ? 0 : of.line.size;
        if (!isSide(c, side) || i < -1 || i >= waiting) {
            return BAD;
        }
        return i == -1 || of == null ? waiting : of.line.at(i);
    }

    public int alter(int c, int side, int i, int mask) {
        Side of = sideOf(c, side);
        if (of == null || i < 0 || i >= of.line.size || mask < 1 || mask > 255) {
            return BAD;
        }
        of.line.bytes[i] ^= mask;
        return of.line.at(i);
    }

    public int say(int c, int side) {
        if (!isSide(c, side)) {
            return BAD;
        }
        Side by = sideOf(c, side);
        if (by == null || !by.maySay()) {
            return NO;
        }
        if (by.line.size > Side.GIVE_MOST) {
            return FULL;
        }
        int count = tape.size;
        by.put(Side.SEALED, tape.bytes, 0, count);
        tape.clear();
        return count;
    }

    public int hear(int c, int side) {
        Side by = sideOf(c, side);
        return by == null ? BAD : by.nextHeard();
    }

    public int close(int c, int side) {
        if (!isSide(c, side)) {
            return BAD;
        }
        Side by = sideOf(c, side);
        if (by == null || !by.maySay()) {
            return NO;
        }
        by.putAlert(0);
        by.told[Side.CLOSED] = 1;
        return 1;
    }

    public int renew(int c, int side, int ask) {
        if (!isSide(c, side) || ask != 0 && ask != 1) {
            return BAD;
        }
        Side by = sideOf(c, side);
        if (by == null || !by.maySay()) {
            return NO;
        }
        if (by.line.size > Side.GIVE_MOST) {
            return FULL;
        }
        by.buildNewKeys(ask);
        by.send();
        by.turnWriting();
        return 1;
    }

    public int told(int c, int side, int what) {
        Side of = sideOf(c, side);
        if (of == null || what < 0 || what >= of.told.length) {
            return BAD;
        }
        return of.told[what];
    }

    public long key(int c, int side, int which) {
        Side of = sideOf(c, side);
        if (of == null || which < 0 || which > 7) {
            return BAD;
        }
        return which == 7 ? of.digestNow() : of.keys[which];
    }

    public long export(int c, int side) {
        Side of = sideOf(c, side);
        if (of == null) {
            return BAD;
        }
        long got = 0;
        if (of.exports) {
            int h = Mill.hashOf(of.told[Side.SUITE]);
            long what = house.mill.digestOf(h, tape.bytes, 0, tape.size);
            got = house.mill.derive(h, of.keys[Side.EXPORT], 'y', what);
        }
        tape.clear();
        return got;
    }

    // ---- office

    public int office(int c, int x, int scheme) {
        if (!isCertificate(c) || !isKey(x) || !isScheme(scheme)) {
            return BAD;
        }
        Paper paper = house.papers[c];
        if (paper.numbers[Paper.OFFICE] == 0 || paper.numbers[Paper.POINT] != house.mill.schemePoint(x)) {
            return NO;
        }
        if (officeCount >= OFFICES_MOST) {
            return FULL;
        }
        offices[officeCount] = new Office(house, paper, x, scheme);
        officeCount++;
        return officeCount - 1;
    }

    private boolean isOffice(int o) {
        return o >= 0 && o < officeCount;
    }

    private boolean isOrder(int o, int order) {
        return isOffice(o) && order >= 0 && order < offices[o].orderCount;
    }

    private static boolean isMinutes(int minutes) {
        return minutes >= 1 && minutes <= MINUTES_MOST;
    }

    public int account(int o, long secret) {
        return isOffice(o) ? offices[o].openAccount(secret) : BAD;
    }

    public int order(int o, int account) {
        if (!isOffice(o) || account < 0 || account >= offices[o].accountCount) {
            return BAD;
        }
        int got = offices[o].takeOrder(account, tape);
        if (got >= 0) {
            tape.clear();
        }
        return got;
    }

    public int ordered(int o, int order, int what) {
        return isOrder(o, order) ? offices[o].fact(order, what) : BAD;
    }

    public int zone(long secret) {
        if (Paper.nameFault(tape.bytes, 0, tape.size) >= 0) {
            return NO;
        }
        int i = zonePlace(tape.bytes, 0, tape.size);
        if (i >= ZONE_MOST) {
            return FULL;
        }
        if (i == zoneCount) {
            zoneNames[i] = new Row(tape.size);
            zoneNames[i].take(tape.bytes, 0, tape.size);
            zoneCount++;
        }
        zoneSecrets[i] = secret;
        tape.clear();
        return zoneCount;
    }

    /** Where a NAME stands in THE ZONE; behind all, if it does not. */
    private int zonePlace(int[] bytes, int from, int to) {
        for (int i = 0; i < zoneCount; i++) {
            Row name = zoneNames[i];
            if (Row.same(name.bytes, 0, name.size, bytes, from, to)) {
                return i;
            }
        }
        return zoneCount;
    }

    public int challenge(int o, int order, int k) {
        if (!isOrder(o, order) || k < 0 || k >= offices[o].patternCounts[order]) {
            return BAD;
        }
        Office office = offices[o];
        if (!office.isOpen(order, k)) {
            return NO;
        }
        Row pattern = office.patterns[3 * order + k];
        int i = zonePlace(pattern.bytes, Paper.behindStar(pattern.bytes, 0, pattern.size), pattern.size);
        boolean met = i < zoneCount && zoneSecrets[i] == office.due(order, k);
        return office.look(order, k, met);
    }

    public int issue(int o, int order, int y, int minutes) {
        if (!isOrder(o, order) || y < 2 || y > Mill.P - 2 || !isMinutes(minutes)) {
            return BAD;
        }
        return offices[o].issueOrder(order, y, minutes);
    }

    public int revoke(int o, int serial) {
        return isOffice(o) && offices[o].gave(serial) ? offices[o].revokeSerial(serial) : BAD;
    }

    public int publish(int o, int minutes) {
        return isOffice(o) && isMinutes(minutes) ? offices[o].publishList(minutes) : BAD;
    }

    public int respond(int o, int serial, int minutes) {
        if (!isOffice(o) || !offices[o].gave(serial) || !isMinutes(minutes)) {
            return BAD;
        }
        return offices[o].answerFor(serial, minutes);
    }

    // ---- logs

    public int log() {
        if (logCount >= LOGS_MOST) {
            return FULL;
        }
        logCount++;
        return logCount - 1;
    }

    private boolean isLog(int l) {
        return l >= 0 && l < logCount;
    }

    public int add(int l, long entry) {
        if (!isLog(l)) {
            return BAD;
        }
        if (logSizes[l] >= ENTRIES_MOST) {
            return FULL;
        }
        logs[l][logSizes[l]] = entry;
        logSizes[l]++;
        return logSizes[l];
    }

    public long head(int l, int n) {
        if (!isLog(l) || n < 0 || n > logSizes[l]) {
            return BAD;
        }
        return headOf(logs[l], 0, n);
    }

    public int inclusion(int l, int i, int n) {
        if (!isLog(l) || n < 1 || n > logSizes[l] || i < 0 || i >= n) {
            return BAD;
        }
        int count = 0;
        int from = 0;
        int place = i;
        for (int size = n; size > 1 && count < PROOF_MOST; count++) {
            int k = halfOf(size);
            boolean left = place < k;
            knots[8 + count] = left ? headOf(logs[l], from + k, size - k) : headOf(logs[l], from, k);
            from += left ? 0 : k;
            place -= left ? 0 : k;
            size = left ? k : size - k;
        }
        knotsOut(count);
        return out.size;
    }

    public int consistency(int l, int m, int n) {
        if (!isLog(l) || n < 1 || n > logSizes[l] || m < 1 || m > n) {
            return BAD;
        }
        int count = 0;
        int from = 0;
        int rest = m;
        int size = n;
        boolean whole = true;
        for (; size > rest && count < PROOF_MOST; count++) {
            int k = halfOf(size);
            boolean left = rest <= k;
            knots[8 + count] = left ? headOf(logs[l], from + k, size - k) : headOf(logs[l], from, k);
            from += left ? 0 : k;
            rest -= left ? 0 : k;
            size = left ? k : size - k;
            whole = whole && left;
        }
        if (!whole) {
            knots[8 + count] = headOf(logs[l], from, size);
            count++;
        }
        knotsOut(count);
        return out.size;
    }

    /** OUT becomes the first so many found HEADS, the one found last ahead. */
    private void knotsOut(int count) {
        out.clear();
        for (int i = count - 1; i >= 0; i--) {
            out.putSecret(knots[8 + i]);
        }
    }

    public int included(long entry, int i, int n, long head) {
        if (n < 1 || n > ENTRIES_MOST || i < 0 || i >= n) {
            return BAD;
        }
        int turns = 0;
        int count = 0;
        int place = i;
        for (int size = n; size > 1 && count < PROOF_MOST; count++) {
            int k = halfOf(size);
            boolean left = place < k;
            turns |= left ? 1 << count : 0;
            place -= left ? 0 : k;
            size = left ? k : size - k;
        }
        boolean good = tape.size == 8 * count;
        long got = leafOf(entry);
        for (int at = 0; good && at < count; at++) {
            long other = tape.secretAt(8 * at);
            boolean left = (turns >>> count - 1 - at & 1) == 1;
            got = left ? knotOf(got, other) : knotOf(other, got);
        }
        tape.clear();
        return good && got == head ? 1 : 0;
    }

    public int consistent(int m, int n, long first, long second) {
        if (n < 1 || n > ENTRIES_MOST || m < 1 || m > n) {
            return BAD;
        }
        int turns = 0;
        int count = 0;
        int rest = m;
        for (int size = n; size > rest && count < PROOF_MOST; count++) {
            int k = halfOf(size);
            boolean left = rest <= k;
            turns |= left ? 1 << count : 0;
            rest -= left ? 0 : k;
            size = left ? k : size - k;
        }
        boolean whole = turns == (1 << count) - 1;
        int ahead = whole ? 0 : 1;
        boolean good = tape.size == 8 * (count + ahead);
        long old = whole ? first : tape.secretAt(0);
        long now = old;
        for (int at = 0; good && at < count; at++) {
            long other = tape.secretAt(8 * (ahead + at));
            boolean left = (turns >>> count - 1 - at & 1) == 1;
            old = left ? old : knotOf(other, old);
            now = left ? knotOf(now, other) : knotOf(other, now);
        }
        tape.clear();
        return good && old == first && now == second ? 1 : 0;
    }

    /** The greatest power of 2 below n. */
    private static int halfOf(int n) {
        int k = 1;
        for (int i = 0; i < 8 && 2 * k < n; i++) {
            k *= 2;
        }
        return k;
    }

    private long leafOf(long entry) {
        Mill mill = house.mill;
        mill.start(0);
        mill.put(0);
        mill.putSecret(entry);
        return mill.finish();
    }

    private long knotOf(long left, long right) {
        Mill mill = house.mill;
        mill.start(0);
        mill.put(1);
        mill.putSecret(left);
        mill.putSecret(right);
        return mill.finish();
    }

    /** The HEAD of n entries: whole halves are knotted as soon as they are there, the rest from the right. */
    private long headOf(long[] entries, int from, int n) {
        if (n <= 0) {
            return house.mill.digestOf(0, tape.bytes, 0, 0);
        }
        int open = 0;
        for (int i = 0; i < n; i++) {
            long got = leafOf(entries[from + i]);
            for (int bits = i; (bits & 1) == 1 && open > 0; bits >>= 1) {
                open--;
                got = knotOf(knots[open], got);
            }
            knots[open] = got;
            open++;
        }
        for (; open > 1; open--) {
            knots[open - 2] = knotOf(knots[open - 2], knots[open - 1]);
        }
        return knots[0];
    }

    /** Bytes 0 .. 255 one behind the other, as many as come. */
    private static final class Row {
        static final int SIGNATURE_NODE = 10;
        private static final int MOST = 100000;

        private int[] bytes;
        private int size;

        Row(int room) {
            bytes = new int[Math.max(room, 8)];
        }

        void clear() {
            size = 0;
        }

        int at(int i) {
            return i >= 0 && i < size ? bytes[i] : 0;
        }

        int twoAt(int i) {
            return at(i) << 8 | at(i + 1);
        }

        int fourAt(int i) {
            return at(i) << 24 | at(i + 1) << 16 | at(i + 2) << 8 | at(i + 3);
        }

        long secretAt(int i) {
            return (long) fourAt(i) << 32 | fourAt(i + 4) & 0xffffffffL;
        }

        void put(int value) {
            if (size >= MOST) {
                return;
            }
            if (size >= bytes.length) {
                bytes = Arrays.copyOf(bytes, 2 * bytes.length);
            }
            bytes[size] = value & 255;
            size++;
        }

        void putTwo(int value) {
            put(value >>> 8);
            put(value);
        }

        void putFour(int value) {
            for (int shift = 24; shift >= 0; shift -= 8) {
                put(value >>> shift);
            }
        }

        void putSecret(long value) {
            for (int shift = 56; shift >= 0; shift -= 8) {
                put((int) (value >>> shift));
            }
        }

        /** The first n bytes of a SECRET come behind. */
        void putHighest(long value, int n) {
            for (int i = 0; i < n && i < 8; i++) {
                put((int) (value >>> 56 - 8 * i));
            }
        }

        void take(int[] source, int from, int to) {
            if (from < 0 || to > source.length || from >= to || size + (to - from) > MOST) {
                return;
            }
            if (size + to - from > bytes.length) {
                bytes = Arrays.copyOf(bytes, Math.max(2 * bytes.length, size + to - from));
            }
            System.arraycopy(source, from, bytes, size, to - from);
            size += to - from;
        }

        /** The first n bytes go. */
        void drop(int n) {
            int gone = Math.max(0, Math.min(n, size));
            System.arraycopy(bytes, gone, bytes, 0, size - gone);
            size -= gone;
        }

        static int headerSize(int n) {
            return n < 128 ? 2 : n < 256 ? 3 : 4;
        }

        /** The tag and the length of a NODE of n bytes. */
        void putHeader(int tag, int n) {
            put(tag);
            if (n < 128) {
                put(n);
            } else if (n < 256) {
                put(129);
                put(n);
            } else {
                put(130);
                put(n >>> 8);
                put(n);
            }
        }

        void putNumber(int value) {
            int n = value < 128 ? 1 : value < 32768 ? 2 : value < 8388608 ? 3 : 4;
            putHeader(Paper.TAG_NUMBER, n);
            for (int i = n - 1; i >= 0; i--) {
                put(value >>> 8 * i);
            }
        }

        void putNode(int tag, int[] source, int from, int to) {
            putHeader(tag, Math.max(0, to - from));
            take(source, from, to);
        }

        static boolean same(int[] a, int from, int to, int[] b, int start, int stop) {
            if (to - from != stop - start || from < 0 || start < 0 || to > a.length || stop > b.length) {
                return false;
            }
            for (int i = 0; i < to - from; i++) {
                if (a[from + i] != b[start + i]) {
                    return false;
                }
            }
            return true;
        }
    }

    /** The functions, and the digest's state between bytes. */
    private static final class Mill {
        static final int P = 2147483579;
        static final int Q = 1073741789;
        private static final int[] PRIMES = {2147483647, 2147483629, 2147483587};
        private static final int[] BASES = {7, 2, 2};
        private static final long INNER = 0x3636363636363636L;
        private static final long OUTER = 0x5c5c5c5c5c5c5c5cL;
        /** A byte 128 and seven 0s. */
        private static final long MARK = 1L << 63;
        private static final int POSITIVE = 0x7fffffff;

        private int a;
        private int b;
        private int c;
        private int d;
        private long word;
        private int count;

        static int hashOf(int suite) {
            return suite == 3 ? 1 : 0;
        }

        static int tagSize(int suite) {
            return suite == 2 ? 4 : 8;
        }

        void start(int h) {
            a = 1 + h;
            b = 2 + h;
            c = 3 + h;
            d = 4 + h;
            count = 0;
        }

        /** What another one has taken up to now is as if taken here. */
        void follow(Mill other) {
            a = other.a;
            b = other.b;
            c = other.c;
            d = other.d;
            word = other.word;
            count = other.count;
        }

        /** Two FOURs come in, and MIX. */
        private void block(long two) {
            int p = a ^ (int) (two >>> 32);
            int q = b ^ (int) two;
            int r = c;
            int s = d;
            for (int i = 1; i <= 8; i++) {
                p += q;
                s ^= p;
                s = s << 16 | s >>> 16;
                r += s;
                q ^= r;
                q = q << 12 | q >>> 20;
                p += q;
                s ^= p;
                s = s << 8 | s >>> 24;
                r += s;
                q ^= r;
                q = q << 7 | q >>> 25;
                p ^= i;
            }
            a = p;
            b = q;
            c = r;
            d = s;
        }

        private long value() {
            return (long) (a ^ c) << 32 | (b ^ d) & 0xffffffffL;
        }

        void put(int value) {
            word = word << 8 | value & 255;
            count++;
            if ((count & 7) == 0) {
                block(word);
            }
        }

        void putSecret(long value) {
            int part = 8 * (count & 7);
            block(part == 0 ? value : word << 64 - part | value >>> part);
            word = value;
            count += 8;
        }

        void take(int[] bytes, int from, int to) {
            if (from < 0 || to > bytes.length) {
                return;
            }
            for (int i = from; i < to; i++) {
                word = word << 8 | bytes[i];
                count++;
                if ((count & 7) == 0) {
                    block(word);
                }
            }
        }

        long finish() {
            block((word << 8 | 128) << 8 * (7 - (count & 7)));
            c ^= count;
            block(0);
            return value();
        }

        long digestOf(int h, int[] bytes, int from, int to) {
            start(h);
            take(bytes, from, to);
            return finish();
        }

        /** The outer DIGEST of KEYED, of sixteen bytes. */
        private long outer(int h, long k, long inside) {
            start(h);
            block(k ^ OUTER);
            block(inside);
            block(MARK);
            c ^= 16;
            block(0);
            return value();
        }

        private void open(int h, long k) {
            start(h);
            block(k ^ INNER);
            count = 8;
        }

        long keyedBytes(int h, long k, int[] bytes, int from, int to) {
            open(h, k);
            take(bytes, from, to);
            return outer(h, k, finish());
        }

        /** KEYED of a SECRET. */
        long keyedSecret(int h, long k, long t) {
            open(h, k);
            putSecret(t);
            return outer(h, k, finish());
        }

        long derive(int h, long k, int letter, long d) {
            open(h, k);
            put(letter);
            putSecret(d);
            return outer(h, k, finish());
        }

        /** The bytes from a place on are xored with the blocks of a key and a number. */
        private void stream(long k, long m, int[] bytes, int from, int to) {
            if (from < 0 || to > bytes.length) {
                return;
            }
            for (int i = from; i < to; i++) {
                int place = i - from & 7;
                if (place == 0) {
                    a = (int) (k >>> 32);
                    b = (int) k;
                    c = (int) m;
                    d = i - from >>> 3;
                    block(0);
                    word = value();
                }
                bytes[i] ^= (int) (word >>> 56 - 8 * place) & 255;
            }
        }

        /** By a DERIVED key: the TAG of data | what was sealed, which stand in a row behind each other. */
        private long tag(int h, long t, Row whole, int data, int to) {
            open(h, t);
            take(whole.bytes, 0, to);
            for (int shift = 24; shift >= 0; shift -= 8) {
                put(data >>> shift);
            }
            return outer(h, t, finish());
        }

        /** Whether what is behind the data opens; if so the text is there then, without the TAG. */
        boolean opens(int suite, long k, long m, Row whole, int data) {
            int tagged = tagSize(suite);
            int to = whole.size - tagged;
            if (data < 0 || to < data) {
                return false;
            }
            int h = hashOf(suite);
            long due = tag(h, derive(h, k, 't', m), whole, data, to);
            for (int i = 0; i < tagged; i++) {
                if (whole.at(to + i) != ((int) (due >>> 56 - 8 * i) & 255)) {
                    return false;
                }
            }
            whole.size = to;
            stream(k, m, whole.bytes, data, to);
            return true;
        }

        private static int power(long base, int exponent, int p) {
            int m = Math.max(p, 2);
            long got = 1;
            long square = base;
            for (int bit = 0; bit < 31 && exponent >>> bit != 0; bit++) {
                if ((exponent >>> bit & 1) == 1) {
                    got = got * square % m;
                }
                square = square * square % m;
            }
            return (int) got;
        }

        int groupPoint(int group, int x) {
            return isGroup(group) ? power(BASES[group - 1], x, PRIMES[group - 1]) : 0;
        }

        private static boolean isGroup(int group) {
            return group >= 1 && group <= 3;
        }

        long jointOf(int group, int x, int y) {
            if (!isGroup(group)) {
                return 0;
            }
            int p = PRIMES[group - 1];
            if (y < 2 || y > p - 2) {
                return 0;
            }
            int got = power(y, x, p);
            return got < 2 || got > p - 2 ? 0 : got;
        }

        int schemePoint(int x) {
            return power(4, x, P);
        }

        /** The first FOUR of a DIGEST without its highest bit. */
        private static int firstOf(long digest) {
            return (int) (digest >>> 32) & POSITIVE;
        }

        long signed(int scheme, int x, int[] bytes, int from, int to) {
            int u = firstOf(keyedBytes(scheme - 1, x, bytes, from, to));
            int k = 1 + u % (Q - 1);
            start(scheme - 1);
            putSecret((long) power(4, k, P) << 32 | schemePoint(x));
            take(bytes, from, to);
            int e = firstOf(finish()) % Q;
            long s = (k + (long) e * x) % Q;
            return (long) e << 32 | s;
        }

        boolean proves(int scheme, int y, long signature, int[] bytes, int from, int to) {
            int e = (int) (signature >>> 32);
            int s = (int) signature;
            if (y < 2 || y > P - 2 || e < 0 || e >= Q || s < 0 || s >= Q || power(y, Q, P) != 1) {
                return false;
            }
            int r = (int) ((long) power(4, s, P) * power(y, Q - e, P) % P);
            start(scheme - 1);
            putSecret((long) r << 32 | y);
            take(bytes, from, to);
            return firstOf(finish()) % Q == e;
        }
    }

    /** A CERTIFICATE, a LIST or an ANSWER, and how bytes are looked at as such. */
    private static final class Paper {
        static final int CERTIFICATE = 0;
        static final int LIST = 1;
        static final int ANSWER = 2;
        static final int MOST = 400;
        static final int TAG_NODES = 48;
        static final int TAG_NUMBER = 2;
        static final int TAG_BYTES = 4;
        static final int TAG_NAME = 12;
        static final int TAG_OFFICE = 161;
        static final int TAG_DEPTH = 162;
        static final int TAG_USES = 163;
        static final int TAG_NAMES = 164;
        /** The tag of PERMITTED stands between. */
        static final int TAG_EXCLUDED = 166;
        /** Numbers, as field() tells them; the number of a LIST stands at SERIAL. */
        static final int SERIAL = 0;
        static final int FROM = 1;
        static final int TO = 2;
        static final int SCHEME = 3;
        static final int POINT = 4;
        static final int OFFICE = 5;
        /** The state of an ANSWER, which is no OFFICE. */
        static final int STATE = 5;
        static final int DEPTH = 6;
        static final int USES = 7;
        static final int NAME_COUNT = 8;
        static final int PERMITTED_COUNT = 9;
        static final int EXCLUDED_COUNT = 10;
        static final int SIZE = 11;
        /** What USES allow: to put certificates, to put lists and answers. */
        static final int USE_CERTIFICATES = 4;
        static final int USE_LISTS = 8;
        /** Slots of what is marked in the bytes; from NAMES on four each for NAMES, PERMITTED, EXCLUDED. */
        static final int ISSUER = 0;
        static final int SUBJECT = 1;
        static final int INNER = 2;
        static final int SERIALS = 3;
        static final int NAMES = 4;
        static final int PERMITTED = 8;
        static final int EXCLUDED = 12;

        private final int[] bytes;
        private final int[] numbers = new int[12];
        private final int[] marks = new int[32];
        private long signature;
        private int at;
        /** The number by which a CERTIFICATE is held; -1 without. */
        private int number = -1;
        /** Of what is held: 1 if the SIGNATURE FITS the CERTIFICATE of this number, 2 if not, 0 not looked at yet. */
        private int[] looked;

        Paper(int room) {
            bytes = new int[Math.max(room, 1)];
        }

        int start(int slot) {
            return marks[2 * slot];
        }

        int stop(int slot) {
            return marks[2 * slot + 1];
        }

        private void mark(int slot, int from, int to) {
            marks[2 * slot] = from;
            marks[2 * slot + 1] = to;
        }

        boolean hasBytesOf(Paper other) {
            return Row.same(bytes, 0, numbers[SIZE], other.bytes, 0, other.numbers[SIZE]);
        }

        boolean hasSame(int slot, Paper other, int otherSlot) {
            return Row.same(bytes, start(slot), stop(slot), other.bytes, other.start(otherSlot), other.stop(otherSlot));
        }

        /** The place of THE FAULT of a row that should be one NODE, counted from where it begins; -1: it is one. */
        static int fault(int[] bytes, int from, int to, int[] stops) {
            int depth = 0;
            int at = from;
            int limit = to;
            boolean more = true;
            for (int turn = 0; more && turn <= 2 * (to - from) + 2; turn++) {
                if (depth > 0 && at == limit) {
                    depth--;
                    limit = depth == 0 ? to : stops[depth - 1];
                    more = depth > 0;
                    continue;
                }
                if (at >= limit) {
                    return limit - from;
                }
                int tag = bytes[at];
                if (!isTag(tag) || depth >= stops.length) {
                    return at - from;
                }
                int size = at + 1 < limit ? lengthSize(bytes[at + 1]) : 1;
                int body = at + 1 + size;
                if (size > 0 && body > limit) {
                    return limit - from;
                }
                int n = lengthIn(bytes, at + 1, size);
                if (n < 0 || body + n > limit) {
                    return at + 1 - from;
                }
                int wrong = contentFault(tag, bytes, body, body + n);
                if (wrong >= 0) {
                    return wrong - from;
                }
                at = tag == TAG_NODES ? body : body + n;
                if (tag == TAG_NODES) {
                    stops[depth] = body + n;
                    limit = body + n;
                    depth++;
                }
                more = depth > 0;
            }
            return at < to ? at - from : -1;
        }

        private static boolean isTag(int tag) {
            return tag == TAG_NODES || tag == TAG_NUMBER || tag == TAG_BYTES || tag == TAG_NAME
                || tag >= TAG_OFFICE && tag <= TAG_EXCLUDED;
        }

        /** How many bytes a length has that begins so; 0: there is none such. */
        private static int lengthSize(int first) {
            return first < 128 ? 1 : first == 129 ? 2 : first == 130 ? 3 : 0;
        }

        /** The length in so many bytes; -1 if it is none, or not the shortest. */
        private static int lengthIn(int[] bytes, int at, int size) {
            if (size == 1) {
                return bytes[at];
            }
            int n = size == 2 ? bytes[at + 1] : size == 3 ? bytes[at + 1] << 8 | bytes[at + 2] : -1;
            return n < (size == 2 ? 128 : 256) ? -1 : n;
        }

        private static int contentFault(int tag, int[] bytes, int from, int to) {
            if (tag == TAG_NAME) {
                return nameFault(bytes, from, to);
            }
            int n = to - from;
            boolean good = n >= 1 && n <= 4 && bytes[from] < 128 && (n == 1 || bytes[from] > 0 || bytes[from + 1] > 127);
            return tag == TAG_NUMBER && !good ? from : -1;
        }

        /** The place of the first byte that can't stand in a NAME, or of its end if a LABEL lacks there; -1: it is one. */
        static int nameFault(int[] bytes, int from, int to) {
            for (int i = from; i < to; i++) {
                int sign = bytes[i];
                boolean label = sign >= 'a' && sign <= 'z' || sign >= '0' && sign <= '9' || sign == '-';
                boolean point = sign == '.' && i > from && bytes[i - 1] != '.';
                if (i - from == 40 || !label && !point) {
                    return i;
                }
            }
            return to <= from || bytes[to - 1] == '.' ? to : -1;
        }

        /** Where a PATTERN goes on behind *., if it begins so. */
        static int behindStar(int[] bytes, int from, int to) {
            return to - from > 2 && bytes[from] == '*' && bytes[from + 1] == '.' ? from + 2 : from;
        }

        static boolean isPattern(int[] bytes, int from, int to) {
            int start = behindStar(bytes, from, to);
            return nameFault(bytes, start, to) < 0 && (start == from || pointIn(bytes, start, to) < to);
        }

        /** The place of the first . of a NAME; its end, if there is none. */
        private static int pointIn(int[] bytes, int from, int to) {
            int at = from;
            while (at < to && bytes[at] != '.') {
                at++;
            }
            return at;
        }

        /** Whether a NAME MEETS the PATTERN in a slot. */
        boolean meets(int slot, int[] name, int to) {
            int from = start(slot);
            int behind = behindStar(bytes, from, stop(slot));
            int point = pointIn(name, 0, to);
            return Row.same(bytes, from, stop(slot), name, 0, to)
                || behind > from && point < to && Row.same(bytes, behind, stop(slot), name, point + 1, to);
        }

        /** Whether what is in a slot LIES UNDER the base in a slot of another one. */
        boolean liesUnder(int slot, Paper other, int base) {
            int from = behindStar(bytes, start(slot), stop(slot));
            int cut = stop(slot) - (other.stop(base) - other.start(base));
            return cut >= from
                && Row.same(bytes, cut, stop(slot), other.bytes, other.start(base), other.stop(base))
                && (cut == from || bytes[cut - 1] == '.');
        }

        /** Whether bytes that are a NODE are one of these; its parts can be asked for then. */
        boolean read(int kind, int[] source, int from, int n) {
            if (n < 1 || n > MOST || n > bytes.length || from < 0 || from + n > source.length) {
                return false;
            }
            System.arraycopy(source, from, bytes, 0, n);
            Arrays.fill(numbers, 0);
            numbers[DEPTH] = NONE;
            numbers[USES] = 15;
            numbers[SIZE] = n;
            at = 0;
            int whole = open(TAG_NODES, n);
            int start = at;
            int inner = open(TAG_NODES, whole);
            if (inner < 0 || !readInner(kind, inner) || at != inner) {
                return false;
            }
            mark(INNER, start, inner);
            int end = open(TAG_BYTES, whole);
            if (end != whole || end - at != 8) {
                return false;
            }
            signature = (long) fourAt(at) << 32 | fourAt(at + 4) & 0xffffffffL;
            return true;
        }

        private int fourAt(int i) {
            return bytes[i] << 24 | bytes[i + 1] << 16 | bytes[i + 2] << 8 | bytes[i + 3];
        }

        /** Goes into the NODE that comes next, whose length is known to be right: its end; -1 if none of this tag comes. */
        private int open(int tag, int limit) {
            if (at + 1 >= limit || bytes[at] != tag) {
                return -1;
            }
            int first = bytes[at + 1];
            int size = first < 128 ? 1 : first == 129 ? 2 : 3;
            if (at + 1 + size > limit) {
                return -1;
            }
            int n = size == 1 ? first : size == 2 ? bytes[at + 2] : bytes[at + 2] << 8 | bytes[at + 3];
            at += 1 + size;
            return at + n <= limit ? at + n : -1;
        }

        /** The NUMBER that comes next; -1 if there is none. */
        private int readNumber(int limit) {
            int end = open(TAG_NUMBER, limit);
            int got = end < 0 ? -1 : 0;
            for (; at < end; at++) {
                got = got << 8 | bytes[at];
            }
            return got;
        }

        /** Marks the NAME that comes next; whether there is one. */
        private boolean readName(int slot, int limit) {
            int end = open(TAG_NAME, limit);
            if (end < 0) {
                return false;
            }
            mark(slot, at, end);
            at = end;
            return true;
        }

        /** FROM, TO, SCHEME. */
        private boolean times(int limit) {
            numbers[FROM] = readNumber(limit);
            numbers[TO] = readNumber(limit);
            numbers[SCHEME] = readNumber(limit);
            return numbers[FROM] >= 0 && numbers[TO] >= numbers[FROM] && isScheme(numbers[SCHEME]);
        }

        private boolean readInner(int kind, int limit) {
            if (kind == CERTIFICATE) {
                numbers[SERIAL] = readNumber(limit);
                return numbers[SERIAL] >= 1 && readName(ISSUER, limit) && readName(SUBJECT, limit) && times(limit)
                    && pointNode(limit) && extensions(limit);
            }
            if (!readName(ISSUER, limit)) {
                return false;
            }
            numbers[SERIAL] = readNumber(limit);
            if (kind == LIST) {
                return numbers[SERIAL] >= 0 && times(limit) && serials(limit);
            }
            numbers[STATE] = readNumber(limit);
            return numbers[SERIAL] >= 0 && (numbers[STATE] == 0 || numbers[STATE] == 1) && times(limit);
        }

        private boolean pointNode(int limit) {
            int end = open(TAG_BYTES, limit);
            if (end < 0 || end - at != 4) {
                return false;
            }
            numbers[POINT] = fourAt(at);
            at = end;
            return true;
        }

        private boolean serials(int limit) {
            int end = open(TAG_BYTES, limit);
            if (end < 0 || end - at > 160 || (end - at) % 4 != 0) {
                return false;
            }
            mark(SERIALS, at, end);
            int last = 0;
            for (; at < end; at += 4) {
                int serial = fourAt(at);
                if (serial <= last) {
                    return false;
                }
                last = serial;
            }
            return true;
        }

        boolean lists(int serial) {
            for (int i = start(SERIALS); i < stop(SERIALS); i += 4) {
                if (fourAt(i) == serial) {
                    return true;
                }
            }
            return false;
        }

        private boolean extensions(int limit) {
            int last = TAG_OFFICE - 1;
            for (int turn = 0; turn <= 6 && at < limit; turn++) {
                int tag = bytes[at];
                int end = open(tag, limit);
                if (tag <= last || tag > TAG_EXCLUDED || end < 0) {
                    return false;
                }
                boolean one = end - at == 1;
                boolean good = true;
                if (tag == TAG_OFFICE) {
                    numbers[OFFICE] = 1;
                    good = end == at;
                } else if (tag == TAG_DEPTH) {
                    numbers[DEPTH] = one ? bytes[at] : 7;
                    good = numbers[OFFICE] == 1 && numbers[DEPTH] <= 6;
                } else if (tag == TAG_USES) {
                    numbers[USES] = one ? bytes[at] : 0;
                    good = numbers[USES] >= 1 && numbers[USES] <= 15;
                } else {
                    good = names(tag - TAG_NAMES, end);
                }
                if (!good) {
                    return false;
                }
                last = tag;
                at = end;
            }
            return at == limit;
        }

        /** One to four NODES 12: of NAMES (0) PATTERNS, of PERMITTED (1), EXCLUDED (2) NAMES. */
        private boolean names(int k, int limit) {
            int count = 0;
            while (at < limit && count < 4) {
                boolean fits = at + 1 < limit && bytes[at] == TAG_NAME && bytes[at + 1] < 128;
                int end = fits ? at + 2 + bytes[at + 1] : -1;
                if (end < 0 || end > limit) {
                    return false;
                }
                at += 2;
                int start = k == 0 ? behindStar(bytes, at, end) : at;
                if (nameFault(bytes, start, end) >= 0 || start > at && pointIn(bytes, start, end) == end) {
                    return false;
                }
                mark(NAMES + 4 * k + count, at, end);
                count++;
                at = end;
            }
            numbers[NAME_COUNT + k] = count;
            return count > 0 && at == limit;
        }
    }

    /** What all ends and lines stand in: TIME, what is held, and rows that are used again and again. */
    private static final class House {
        private static final int CERTIFICATES_MOST = 30;
        private static final int PAPERS_MOST = 12;
        private static final int STEPS_MOST = 6;
        /** How many links a PATH that is BUILT has at most. */
        private static final int LINKS_MOST = 3;
        private static final int TURNS_MOST = 1000000;

        private int time;
        private final Mill mill = new Mill();
        private final Row message = new Row(512);
        private final Row cipher = new Row(256);
        private final Row inner = new Row(8);
        private final int[] stack = new int[10];
        private final Fields fields = new Fields();
        private final Fields before = new Fields();
        private final Paper[] papers = new Paper[CERTIFICATES_MOST];
        private int paperCount;
        private final Paper[] lists = new Paper[PAPERS_MOST];
        private int listCount;
        private final Paper[] answers = new Paper[PAPERS_MOST];
        private int answerCount;
        private final Paper spare = new Paper(Paper.MOST);
        /** What a CHAIN shows, which is not held. */
        private final Paper[] shown = new Paper[4];
        private final Paper staple = new Paper(Paper.MOST);
        private boolean stapled;
        private final Paper[] path = new Paper[STEPS_MOST];
        private int pathSize;

        House() {
            for (int i = 0; i < shown.length; i++) {
                shown[i] = new Paper(Paper.MOST);
            }
        }

        /** Into a row: 48 { what is in another; 4 the SIGNATURE of it }. */
        void wrapRow(Row inside, int scheme, int x, Row whole) {
            long signature = mill.signed(scheme, x, inside.bytes, 0, inside.size);
            whole.clear();
            whole.putHeader(Paper.TAG_NODES, inside.size + Row.SIGNATURE_NODE);
            whole.take(inside.bytes, 0, inside.size);
            whole.putHeader(Paper.TAG_BYTES, 8);
            whole.putSecret(signature);
        }

        /** Holds a row that is one NODE: its number, -9 if it is none of this kind, or FULL. */
        int hold(int kind, Row source) {
            if (!spare.read(kind, source.bytes, 0, source.size)) {
                return -9;
            }
            for (int i = 0; kind == Paper.CERTIFICATE && i < paperCount; i++) {
                if (papers[i].hasBytesOf(spare)) {
                    return i;
                }
            }
            int count = kind == Paper.CERTIFICATE ? paperCount : kind == Paper.LIST ? listCount : answerCount;
            if (count >= (kind == Paper.CERTIFICATE ? CERTIFICATES_MOST : PAPERS_MOST)) {
                return FULL;
            }
            Paper held = new Paper(source.size);
            held.read(kind, source.bytes, 0, source.size);
            held.looked = new int[CERTIFICATES_MOST];
            if (kind == Paper.CERTIFICATE) {
                held.number = count;
                papers[count] = held;
                paperCount++;
            } else if (kind == Paper.LIST) {
                lists[count] = held;
                listCount++;
            } else {
                answers[count] = held;
                answerCount++;
            }
            return count;
        }

        /** Whether a SIGNATURE FITS the POINT of an issuer; kept for what is held, since neither changes. */
        private boolean isBy(Paper paper, Paper issuer) {
            int place = issuer.number;
            boolean kept = paper.looked != null && place >= 0 && place < paper.looked.length;
            if (kept && paper.looked[place] != 0) {
                return paper.looked[place] == 1;
            }
            boolean good = mill.proves(paper.numbers[Paper.SCHEME], issuer.numbers[Paper.POINT], paper.signature,
                paper.bytes, paper.start(Paper.INNER), paper.stop(Paper.INNER));
            if (kept) {
                paper.looked[place] = good ? 1 : 2;
            }
            return good;
        }

        /** Whether a LIST or an ANSWER has c's ISSUER and a time. */
        private static boolean covers(Paper paper, Paper c, int when) {
            return paper.numbers[Paper.FROM] <= when && when <= paper.numbers[Paper.TO]
                && paper.hasSame(Paper.ISSUER, c, Paper.ISSUER);
        }

        /** By what an issuer has put: 0 neither, 1 REVOKED, 2 UNKNOWN. */
        int standing(Paper c, Paper issuer, int when) {
            if ((issuer.numbers[Paper.USES] & Paper.USE_LISTS) == 0) {
                return 2;
            }
            int serial = c.numbers[Paper.SERIAL];
            if (stapled && staple.numbers[Paper.SERIAL] == serial && covers(staple, c, when) && isBy(staple, issuer)) {
                return staple.numbers[Paper.STATE];
            }
            for (int i = answerCount - 1; i >= 0; i--) {
                if (answers[i].numbers[Paper.SERIAL] == serial && covers(answers[i], c, when) && isBy(answers[i], issuer)) {
                    return answers[i].numbers[Paper.STATE];
                }
            }
            Paper best = null;
            for (int i = 0; i < listCount; i++) {
                boolean later = best == null || lists[i].numbers[Paper.SERIAL] >= best.numbers[Paper.SERIAL];
                if (later && covers(lists[i], c, when) && isBy(lists[i], issuer)) {
                    best = lists[i];
                }
            }
            return best == null ? 2 : best.lists(serial) ? 1 : 0;
        }

        /** The ANSWER that came last for a CERTIFICATE, or null. */
        Paper answerOf(Paper c) {
            for (int i = answerCount - 1; i >= 0; i--) {
                boolean same = answers[i].numbers[Paper.SERIAL] == c.numbers[Paper.SERIAL];
                if (same && answers[i].hasSame(Paper.ISSUER, c, Paper.ISSUER)) {
                    return answers[i];
                }
            }
            return null;
        }

        /** Whether an end trusts a CERTIFICATE; it may be one that is not held. */
        boolean trusts(End end, Paper c) {
            for (int i = 0; i < end.anchorCount; i++) {
                if (papers[end.anchors[i]].hasBytesOf(c)) {
                    return true;
                }
            }
            return false;
        }

        /** Whether a CERTIFICATE may come behind those that the path has: by its NAME, and as none of them. */
        private boolean follows(Paper next, int size) {
            if (size < 1 || !path[size - 1].hasSame(Paper.ISSUER, next, Paper.SUBJECT)) {
                return false;
            }
            for (int i = 0; i < size; i++) {
                if (path[i].hasBytesOf(next)) {
                    return false;
                }
            }
            return true;
        }

        /** Whether each one of the path is followed by the next one. */
        boolean isLinked() {
            for (int i = 1; i < pathSize; i++) {
                if (!follows(path[i], i)) {
                    return false;
                }
            }
            return true;
        }

        boolean isPath(End end) {
            return pathSize > 0 && isLinked() && trusts(end, path[pathSize - 1]);
        }

        /** The first WHY of a PATH and 100 times its step; 0 without. */
        int why(End end, int when, int use) {
            int k = pathSize - 1;
            for (int i = 0; i <= k; i++) {
                int why = i < k ? whyOfIssue(path[i], path[i + 1], when) : 0;
                if (why == 0) {
                    why = whyOfRights(i, use);
                }
                if (why == 0 && i < k) {
                    int standing = standing(path[i], path[i + 1], when);
                    why = standing == 1 ? 8 : standing == 2 && end.settings[End.STRICT] == 1 ? 9 : 0;
                }
                if (why != 0) {
                    return why + 100 * i;
                }
            }
            return 0;
        }

        private int whyOfIssue(Paper c, Paper issuer, int when) {
            return !isBy(c, issuer) ? 1 : when < c.numbers[Paper.FROM] ? 2 : when > c.numbers[Paper.TO] ? 3 : 0;
        }

        private int whyOfRights(int i, int use) {
            Paper c = path[i];
            int need = i > 0 ? Paper.USE_CERTIFICATES : use;
            if (i > 0 && c.numbers[Paper.OFFICE] == 0) {
                return 4;
            }
            if ((c.numbers[Paper.USES] & need) != need) {
                return 5;
            }
            if (c.numbers[Paper.DEPTH] != NONE && c.numbers[Paper.DEPTH] < i - 1) {
                return 6;
            }
            for (int j = 0; j < i; j++) {
                if (!mayName(c, path[j])) {
                    return 7;
                }
            }
            return 0;
        }

        /** Whether all NAMES of one LIE UNDER what an office PERMITS, and none under what it EXCLUDES. */
        private static boolean mayName(Paper office, Paper c) {
            for (int i = 0; i < c.numbers[Paper.NAME_COUNT]; i++) {
                boolean permitted = office.numbers[Paper.PERMITTED_COUNT] == 0;
                for (int j = 0; j < office.numbers[Paper.PERMITTED_COUNT] && !permitted; j++) {
                    permitted = c.liesUnder(Paper.NAMES + i, office, Paper.PERMITTED + j);
                }
                for (int j = 0; j < office.numbers[Paper.EXCLUDED_COUNT] && permitted; j++) {
                    permitted = !c.liesUnder(Paper.NAMES + i, office, Paper.EXCLUDED + j);
                }
                if (!permitted) {
                    return false;
                }
            }
            return true;
        }

        /** The first PATH from a CERTIFICATE without any WHY becomes the path: how many it has, or 0. */
        int findPath(End end, int c, int when, int use) {
            stapled = false;
            path[0] = papers[c];
            for (int k = 0; k <= LINKS_MOST; k++) {
                pathSize = k + 1;
                int level = k == 0 ? 0 : 1;
                boolean found = k == 0 && trusts(end, path[0]) && why(end, when, use) == 0;
                stack[level] = 0;
                for (int turn = 0; !found && level > 0 && turn < TURNS_MOST; turn++) {
                    int place = stack[level];
                    stack[level]++;
                    if (place >= paperCount) {
                        level--;
                    } else if (follows(papers[place], level) && isBy(path[level - 1], papers[place])) {
                        path[level] = papers[place];
                        found = level == k && trusts(end, path[k]) && why(end, when, use) == 0;
                        if (level < k) {
                            level++;
                            stack[level] = 0;
                        }
                    }
                }
                if (found) {
                    return k + 1;
                }
            }
            return 0;
        }

        /** What is shown, with an ANCHOR behind it if need be, becomes the path: 0, or the ALERT. */
        int lineUp(End end, int n) {
            for (int i = 0; i < n; i++) {
                path[i] = shown[i];
            }
            pathSize = n;
            if (!trusts(end, shown[n - 1])) {
                Paper anchor = anchorOver(end, shown[n - 1]);
                if (anchor == null) {
                    return 48;
                }
                path[n] = anchor;
                pathSize = n + 1;
            }
            return isLinked() ? 0 : 42;
        }

        private Paper anchorOver(End end, Paper c) {
            for (int i = 0; i < end.anchorCount; i++) {
                Paper anchor = papers[end.anchors[i]];
                if (c.hasSame(Paper.ISSUER, anchor, Paper.SUBJECT)) {
                    return anchor;
                }
            }
            return null;
        }
    }

    /** The FIELDS of a BODY: where each kind stands in the row that was read. */
    private static final class Fields {
        static final int VERSIONS = 1;
        static final int SUITES = 2;
        static final int GROUPS = 3;
        static final int SHARE = 4;
        static final int SCHEMES = 5;
        static final int HOST = 6;
        static final int MODES = 7;
        static final int EARLY = 8;
        static final int COOKIE = 9;
        static final int SHARED = 10;

        private int[] bytes = new int[0];
        private final int[] starts = new int[SHARED + 1];
        private final int[] stops = new int[SHARED + 1];
        private boolean others;
        /** In SHARED: where the BINDERS begin. */
        private int binders;

        /** Looks at the FIELDS of a message's type that stand in a row: 0, or the ALERT. */
        int read(int[] row, int from, int to, int type) {
            bytes = row;
            others = false;
            Arrays.fill(starts, -1);
            Arrays.fill(stops, -1);
            int last = -1;
            int at = from;
            while (at < to) {
                int kind = row[at];
                if (kind <= last || type == Side.HELLO && last == SHARED) {
                    return 47;
                }
                int start = at + 3;
                int stop = start <= to ? start + (row[at + 1] << 8 | row[at + 2]) : to + 1;
                if (stop > to) {
                    return 50;
                }
                if (!belongs(type, kind)) {
                    others = true;
                } else if (isAsTold(type, kind, start, stop)) {
                    starts[kind] = start;
                    stops[kind] = stop;
                } else {
                    return 50;
                }
                last = kind;
                at = stop;
            }
            return 0;
        }

        private static boolean belongs(int type, int kind) {
            switch (type) {
                case Side.HELLO:
                    return kind >= VERSIONS && kind <= SHARED;
                case Side.ANSWER:
                    return kind == SHARE || kind == SHARED;
                case Side.RETRY:
                    return kind == GROUPS || kind == COOKIE;
                case Side.BEGINNING:
                    return kind == EARLY;
                default:
                    return kind == SCHEMES;
            }
        }

        private boolean isAsTold(int type, int kind, int start, int stop) {
            int n = stop - start;
            switch (kind) {
                case GROUPS:
                    return type == Side.RETRY ? n == 1 : n >= 1;
                case SHARE:
                    return n == 5;
                case HOST:
                    return Paper.nameFault(bytes, start, stop) < 0;
                case MODES:
                    return n == 1 && bytes[start] >= 1 && bytes[start] <= 3;
                case EARLY:
                    return n == 0;
                case COOKIE:
                    return n == 8;
                case SHARED:
                    return type == Side.ANSWER ? n == 1 : isShared(start, stop);
                default:
                    return n >= 1;
            }
        }

        private boolean isShared(int start, int stop) {
            if (start >= stop || bytes[start] < 1) {
                return false;
            }
            int at = start + 1;
            for (int i = 0; i < bytes[start]; i++) {
                if (at >= stop || bytes[at] < 1 || bytes[at] > 16) {
                    return false;
                }
                at += 1 + bytes[at] + 4;
            }
            binders = at;
            return at + 8 * bytes[start] == stop;
        }

        boolean has(int kind) {
            return starts[kind] >= 0;
        }

        /** Byte i of a FIELD; 0 without. */
        int byteOf(int kind, int i) {
            return starts[kind] >= 0 && starts[kind] + i < stops[kind] ? bytes[starts[kind] + i] : 0;
        }

        int fourOf(int kind, int i) {
            return byteOf(kind, i) << 24 | byteOf(kind, i + 1) << 16 | byteOf(kind, i + 2) << 8 | byteOf(kind, i + 3);
        }

        long secretOf(int kind, int i) {
            return (long) fourOf(kind, i) << 32 | fourOf(kind, i + 4) & 0xffffffffL;
        }

        /** Whether a FIELD has a byte. */
        boolean tells(int kind, int value) {
            for (int i = starts[kind]; i >= 0 && i < stops[kind]; i++) {
                if (bytes[i] == value) {
                    return true;
                }
            }
            return false;
        }

        boolean isSame(int kind, Fields other) {
            if (!has(kind) || !other.has(kind)) {
                return has(kind) == other.has(kind);
            }
            return Row.same(bytes, starts[kind], stops[kind], other.bytes, other.starts[kind], other.stops[kind]);
        }
    }

    /** A SHARED secret, or what an end has of a TICKET. */
    private static final class Shared {
        private final int[] id;
        private final int h;
        private final long secret;
        private boolean byTicket;
        private int suite;
        private int life;
        private int allows;
        private int came;
        private boolean earlyTaken;

        Shared(Row name, int hash, long value) {
            id = Arrays.copyOf(name.bytes, name.size);
            h = hash;
            secret = value;
        }

        /** It is a TICKET of so many minutes and early bytes, that came or was given at a time. */
        void becomeTicket(int ofSuite, int minutes, int early, int when) {
            byTicket = true;
            suite = ofSuite;
            life = minutes;
            allows = early;
            came = when;
        }

        int fact(int what) {
            switch (what) {
                case 0:
                    return h;
                case 1:
                    return life;
                case 2:
                    return allows;
                case 3:
                    return suite;
                case 4:
                    return came;
                default:
                    return byTicket ? 1 : 0;
            }
        }

        boolean is(int[] bytes, int from, int to, int hash) {
            return h == hash && Row.same(id, 0, id.length, bytes, from, to);
        }
    }

    /** A CLIENT or a SERVER. */
    private static final class End {
        static final int SUITES = 0;
        static final int GROUPS = 1;
        static final int SCHEMES = 2;
        static final int STRICT = 0;
        static final int ASKS = 1;
        static final int TICKETS = 2;
        static final int LIFE = 3;
        static final int EARLY = 4;
        static final int SHARES = 5;
        static final int WITHOUT = 6;
        static final int WINDOW = 7;
        static final int TAPE_MOST = 200;
        static final int SECRETS_MOST = 6;
        static final int EARLY_MOST = 400;
        private static final int BOOK_MOST = 20;
        private static final int[] SETTINGS_MOST = {1, 2, 3, 10000, 400, 1, 1, 100};

        private final boolean server;
        /** Numbers, then 0s. */
        private final int[][] offers = {{1, 2, 3, 0}, {1, 2, 3, 0}, {1, 2, 0, 0}};
        private final int[] settings = {0, 0, 1, 60, 0, 1, 0, 2};
        private final Row tape = new Row(32);
        private final int[] anchors = new int[House.CERTIFICATES_MOST];
        private int anchorCount;
        private final int[] identity = new int[4];
        private int identityCount;
        private int key;
        private final Row host = new Row(8);
        private final Shared[] secrets = new Shared[SECRETS_MOST];
        private int secretCount;
        private final Row early = new Row(8);
        private final Shared[] book = new Shared[BOOK_MOST];
        private int bookCount;
        private long ticketSecret;
        private int given;

        End(boolean isServer) {
            server = isServer;
        }

        /** How many numbers the bytes of one bear, 0s not counted; 0 too if one is above the greatest, or there twice. */
        static int countOf(int told, int greatest) {
            int count = 0;
            int seen = 0;
            for (int shift = 24; shift >= 0; shift -= 8) {
                int number = told >>> shift & 255;
                if (number > greatest || number > 0 && (seen >>> number & 1) == 1) {
                    return 0;
                }
                seen |= 1 << number;
                count += number > 0 ? 1 : 0;
            }
            return count;
        }

        void offerAll(int what, int told) {
            Arrays.fill(offers[what], 0);
            int count = 0;
            for (int shift = 24; shift >= 0; shift -= 8) {
                int number = told >>> shift & 255;
                if (number > 0) {
                    offers[what][count] = number;
                    count++;
                }
            }
        }

        boolean offers(int what, int number) {
            for (int i = 0; i < 4; i++) {
                if (number > 0 && offers[what][i] == number) {
                    return true;
                }
            }
            return false;
        }

        /** The first of its own that a FIELD has, or 0. */
        int firstIn(int what, Fields fields, int kind) {
            for (int i = 0; i < 4; i++) {
                if (offers[what][i] > 0 && fields.tells(kind, offers[what][i])) {
                    return offers[what][i];
                }
            }
            return 0;
        }

        /** Whether one of its SUITES has this h. */
        boolean hashes(int h) {
            for (int i = 0; i < 4; i++) {
                if (offers[SUITES][i] > 0 && Mill.hashOf(offers[SUITES][i]) == h) {
                    return true;
                }
            }
            return false;
        }

        boolean mayBe(int what, int v) {
            if (what < 0 || what >= settings.length || v < 0 || v > SETTINGS_MOST[what]) {
                return false;
            }
            return what == STRICT || what == WITHOUT || server != (what == SHARES);
        }

        int anchor(int c) {
            for (int i = 0; i < anchorCount; i++) {
                if (anchors[i] == c) {
                    return anchorCount;
                }
            }
            if (anchorCount < anchors.length) {
                anchors[anchorCount] = c;
                anchorCount++;
            }
            return anchorCount;
        }

        void keep(Shared secret) {
            if (secretCount < SECRETS_MOST) {
                secrets[secretCount] = secret;
                secretCount++;
            }
        }

        int lose(int k) {
            for (int i = k; i + 1 < secretCount; i++) {
                secrets[i] = secrets[i + 1];
            }
            secretCount--;
            secrets[secretCount] = null;
            return secretCount;
        }

        /** Into the BOOK, from which the eldest goes if it is full. */
        void note(Shared ticket) {
            for (int i = 0; bookCount == BOOK_MOST && i + 1 < BOOK_MOST; i++) {
                book[i] = book[i + 1];
            }
            bookCount = Math.min(bookCount, BOOK_MOST - 1);
            book[bookCount] = ticket;
            bookCount++;
        }

        /** What the end KNOWS by an id and h at a time, or null. */
        Shared known(int[] bytes, int from, int to, int h, int when) {
            for (int i = 0; i < secretCount; i++) {
                if (secrets[i].is(bytes, from, to, h)) {
                    return secrets[i];
                }
            }
            for (int i = 0; i < bookCount; i++) {
                if (book[i].is(bytes, from, to, h) && when - book[i].came <= book[i].life) {
                    return book[i];
                }
            }
            return null;
        }

        private int drawFour() {
            int got = tape.fourAt(0);
            tape.drop(4);
            return got;
        }

        long drawSecret() {
            long high = drawFour();
            return high << 32 | drawFour() & 0xffffffffL;
        }

        /** The secret number of a SHARE. */
        int drawNumber() {
            return 2 + (drawFour() & 0x3fffffff);
        }

        /** The id of the next TICKET. */
        long nextTicket(Mill mill) {
            given++;
            return mill.derive(0, ticketSecret, 'n', given - 1);
        }
    }

    /** A side of a CONNECTION: its records, its keys, what is told of it. */
    private abstract static class Side {
        static final int ALERT = 21;
        static final int MESSAGES = 22;
        static final int SEALED = 23;

        static final int HELLO = 1;
        static final int ANSWER = 2;
        static final int TICKET = 4;
        static final int EARLYS_END = 5;
        static final int RETRY = 6;
        static final int BEGINNING = 8;
        static final int CHAIN = 11;
        static final int ASKING = 13;
        static final int PROOF = 15;
        static final int END = 20;
        static final int NEW_KEYS = 24;

        /** What is told, by the numbers of told(). */
        static final int STATE = 0;
        static final int SUITE = 1;
        static final int GROUP = 2;
        static final int SCHEME = 3;
        static final int USED = 4;
        static final int EARLY_TAKEN = 5;
        static final int PUT = 6;
        static final int GOT = 7;
        static final int CLOSED = 8;
        static final int OTHER_CLOSED = 9;
        static final int WRITTEN = 10;
        static final int READ = 11;
        static final int SHOWN = 12;
        static final int RIGHT = 13;
        static final int DROPPED = 14;

        /** The keys, by the numbers of key(). */
        static final int WRITING = 0;
        static final int READING = 1;
        static final int EARLY = 2;
        static final int HAND = 3;
        static final int MASTER = 4;
        static final int EXPORT = 5;
        static final int NEXT = 6;

        static final int NOTHING_HEARD = -10;
        static final int GIVE_MOST = 2000;
        static final int BRING_MOST = 4000;
        private static final int PIECE = 200;
        private static final int RECORD_MOST = 300;
        private static final int BODY_MOST = 2500;
        private static final int HEARD_MOST = 2000;
        private static final int DROPPED_MOST = 600;
        /** More than one RECORD can end. */
        private static final int MESSAGES_MOST = 1000;

        final House house;
        final End end;
        final Row line = new Row(128);
        private final Row record = new Row(64);
        final Row pending = new Row(128);
        private final Row heard = new Row(8);
        final int[] told = new int[15];
        final long[] keys = new long[7];
        private boolean writes;
        private boolean reads;
        private int writeSuite;
        boolean exports;
        boolean drops;
        /** Which message may come. */
        int stage;
        /** THE DIGEST's state for both h; once the SUITE is known only its own goes on. */
        private final Mill[] digests = new Mill[2];
        /** The keys behind ANSWER, and the client's for what it says. */
        long clientKey;
        long serverKey;
        long sayingKey;
        int otherPoint;

        Side(House ofHouse, End ofEnd) {
            house = ofHouse;
            end = ofEnd;
            told[PUT] = NONE;
            told[GOT] = NONE;
            for (int h = 0; h < 2; h++) {
                digests[h] = new Mill();
                digests[h].start(h);
            }
        }

        /** Whether a message may come now, and what is wrong in it: 0, or the ALERT. */
        abstract int check(int type, int whole);

        /** Does what a message that is right asks for. */
        abstract void act(int type, int whole);

        /** Whether the key for reading changes behind a message. */
        abstract boolean turnsKey(int type);

        /** Whether so many said bytes may come now. */
        abstract boolean mayHear(int n);

        /** What is wrong in a CHAIN, when its PATH has this WHY. */
        abstract int chainFault(int why);

        boolean maySay() {
            return told[STATE] == 1 && told[CLOSED] == 0;
        }

        int nextHeard() {
            if (heard.size == 0) {
                return told[OTHER_CLOSED] == 1 ? -11 : told[STATE] == 2 ? -12 : NOTHING_HEARD;
            }
            int got = heard.at(0);
            heard.drop(1);
            return got;
        }

        // ---- what comes

        /** All in one, for the calls from here to a block of a digest may go no deeper. */
        void arrive(int[] bytes, int from, int to) {
            int at = from;
            while (at < to && told[STATE] != 2 && told[OTHER_CLOSED] == 0) {
                int n = Math.min(to - at, record.size < 3 ? 3 - record.size : 3 + record.twoAt(1) - record.size);
                record.take(bytes, at, at + n);
                at += Math.max(n, 1);
                int fault = record.size < 3 ? 0 : headFault();
                if (fault == 0 && record.size >= 3 && record.size == 3 + record.twoAt(1)) {
                    fault = takeRecord();
                    record.clear();
                }
                int whole = firstMessage();
                for (int turn = 0; fault == 0 && whole > 0 && turn < MESSAGES_MOST; turn++) {
                    int type = pending.at(0);
                    fault = check(type, whole);
                    if (fault == 0 && type == CHAIN) {
                        fault = checkChain(whole);
                        if (fault == 0 && house.pathSize > 0) {
                            fault = chainFault(house.why(end, house.time, end.server ? 2 : 1));
                        }
                    }
                    if (fault == 0 && pending.size > whole && turnsKey(type)) {
                        fault = 10;
                    }
                    if (fault == 0) {
                        told[RIGHT]++;
                        act(type, whole);
                        pending.drop(whole);
                        whole = firstMessage();
                    }
                }
                if (fault == 0 && whole < 0) {
                    fault = 50;
                }
                if (fault != 0) {
                    putAlert(fault);
                    told[STATE] = 2;
                }
            }
        }

        /** How many bytes the first message has, 0 if it is not whole yet, -1 if its BODY is too long. */
        private int firstMessage() {
            int n = pending.twoAt(1);
            if (pending.size < 3) {
                return 0;
            }
            return n > BODY_MOST ? -1 : pending.size < 3 + n ? 0 : 3 + n;
        }

        private int headFault() {
            int kind = record.at(0);
            return kind < ALERT || kind > SEALED ? 10 : record.twoAt(1) > RECORD_MOST ? 22 : 0;
        }

        /** Handles a record that is whole: 0, or the ALERT. */
        private int takeRecord() {
            int kind = record.at(0);
            int n = record.size - 3;
            boolean mayDrop = drops && told[DROPPED] + n <= DROPPED_MOST;
            if (kind == SEALED ? !reads && !mayDrop : reads) {
                return 10;
            }
            if (n == 0 || kind == ALERT && n != 1) {
                return 50;
            }
            int inside = kind;
            int to = record.size;
            if (kind == SEALED) {
                if (!reads || !opens()) {
                    told[DROPPED] += mayDrop ? n : 0;
                    return mayDrop ? 0 : 20;
                }
                drops = false;
                told[READ]++;
                to = record.size - 1;
                inside = record.at(to);
            }
            if (inside == MESSAGES) {
                pending.take(record.bytes, 3, to);
                return to > 3 ? 0 : 50;
            }
            if (inside == SEALED) {
                return hearAll(to);
            }
            return inside == ALERT ? takeAlert(to) : 10;
        }

        private boolean opens() {
            int suite = told[SUITE];
            return record.size - 3 > Mill.tagSize(suite)
                && house.mill.opens(suite, keys[READING], told[READ], record, 3);
        }

        private int hearAll(int to) {
            if (!mayHear(to - 3)) {
                return 10;
            }
            heard.take(record.bytes, 3, Math.min(to, 3 + HEARD_MOST - heard.size));
            return 0;
        }

        private int takeAlert(int to) {
            if (to != 4) {
                return 50;
            }
            told[GOT] = record.at(3);
            if (told[GOT] == 0) {
                told[OTHER_CLOSED] = 1;
            } else {
                told[STATE] = 2;
            }
            return 0;
        }

        // ---- what is put

        /** Bytes of a kind come on the line, in records. */
        void put(int kind, int[] bytes, int from, int to) {
            for (int at = from; at < to; at += PIECE) {
                int n = Math.min(PIECE, to - at);
                if (!writes) {
                    line.put(kind);
                    line.putTwo(n);
                    line.take(bytes, at, at + n);
                    continue;
                }
                int h = Mill.hashOf(writeSuite);
                int tagged = Mill.tagSize(writeSuite);
                Row text = house.cipher;
                text.clear();
                text.put(SEALED);
                text.putTwo(n + 1 + tagged);
                text.take(bytes, at, at + n);
                text.put(kind);
                house.mill.stream(keys[WRITING], told[WRITTEN], text.bytes, 3, text.size);
                long t = house.mill.derive(h, keys[WRITING], 't', told[WRITTEN]);
                long tag = house.mill.tag(h, t, text, 3, text.size);
                line.take(text.bytes, 0, text.size);
                line.putHighest(tag, tagged);
                told[WRITTEN]++;
            }
        }

        void putAlert(int alert) {
            house.message.clear();
            house.message.put(alert);
            told[PUT] = alert;
            put(ALERT, house.message.bytes, 0, 1);
        }

        /** The message that is built next has this type. */
        Row begin(int type) {
            house.message.clear();
            house.message.put(type);
            house.message.putTwo(0);
            return house.message;
        }

        /** What the end OFFERS, as a FIELD. */
        void putOffers(Row message, int kind, int what) {
            int count = 0;
            for (int i = 0; i < 4; i++) {
                count += end.offers[what][i] > 0 ? 1 : 0;
            }
            message.put(kind);
            message.putTwo(count);
            for (int i = 0; i < count; i++) {
                message.put(end.offers[what][i]);
            }
        }

        static void measure(Row message, int more) {
            int n = message.size - 3 + more;
            message.bytes[1] = n >>> 8 & 255;
            message.bytes[2] = n & 255;
        }

        /** Puts the message that was built. */
        void send() {
            Row message = house.message;
            measure(message, 0);
            note(message.at(0), message.bytes, message.size);
            put(MESSAGES, message.bytes, 0, message.size);
        }

        /** A message goes into THE DIGEST, if its type does. */
        void note(int type, int[] bytes, int to) {
            for (int h = 0; h < 2 && type <= END && type != TICKET; h++) {
                if (told[SUITE] == 0 || Mill.hashOf(told[SUITE]) == h) {
                    digests[h].take(bytes, 0, to);
                }
            }
        }

        /** THE DIGEST up to now, by one h. */
        long digestBy(int h) {
            house.mill.follow(digests[h]);
            return house.mill.finish();
        }

        int hash() {
            return Mill.hashOf(told[SUITE]);
        }

        long digestNow() {
            return told[SUITE] == 0 ? 0 : digestBy(hash());
        }

        /** The first HELLO counts by its DIGEST from now on. */
        void shorten() {
            Mill digest = digests[hash()];
            long got = digestBy(hash());
            digest.start(hash());
            digest.put(254);
            digest.put(0);
            digest.put(8);
            digest.putSecret(got);
        }

        // ---- keys

        void writeBy(long key, int suite) {
            keys[WRITING] = key;
            writeSuite = suite;
            writes = true;
            told[WRITTEN] = 0;
        }

        void writeOpenly() {
            keys[WRITING] = 0;
            writes = false;
            told[WRITTEN] = 0;
        }

        void readBy(long key) {
            keys[READING] = key;
            reads = true;
            told[READ] = 0;
        }

        long derive(long key, int letter, long d) {
            return house.mill.derive(hash(), key, letter, d);
        }

        long keyedSecret(long key, long t) {
            return house.mill.keyedSecret(hash(), key, t);
        }

        /** The keys behind ANSWER. */
        void makeHand(long secret, long joint) {
            keys[EARLY] = keyedSecret(0, secret);
            keys[HAND] = keyedSecret(derive(keys[EARLY], 'd', 0), joint);
            long digest = digestNow();
            clientKey = derive(keys[HAND], 'c', digest);
            serverKey = derive(keys[HAND], 's', digest);
        }

        /** The keys behind the server's END; answers the server's for what it says. */
        long makeMaster() {
            long digest = digestNow();
            keys[MASTER] = keyedSecret(derive(keys[HAND], 'd', 0), 0);
            keys[EXPORT] = derive(keys[MASTER], 'x', digest);
            exports = true;
            sayingKey = derive(keys[MASTER], 'C', digest);
            return derive(keys[MASTER], 'S', digest);
        }

        void makeNext() {
            keys[NEXT] = derive(keys[MASTER], 'r', digestNow());
        }

        /** END by the writer's key behind ANSWER, and THE DIGEST ahead of it. */
        private long endBy(long key, long digest) {
            Mill mill = house.mill;
            return mill.keyedSecret(hash(), mill.derive(hash(), key, 'f', 0), digest);
        }

        /** The BINDER of a secret, for a HELLO whose bytes count up to a place. */
        long binder(int h, long secret, int[] bytes, int to) {
            Mill mill = house.mill;
            long early = mill.keyedSecret(h, 0, secret);
            long key = mill.derive(h, mill.derive(h, early, 'b', 0), 'f', 0);
            mill.follow(digests[h]);
            mill.take(bytes, 0, to);
            return mill.keyedSecret(h, key, mill.finish());
        }

        void buildNewKeys(int ask) {
            begin(NEW_KEYS).put(ask);
        }

        /** The key for writing becomes the next one. */
        void turnWriting() {
            writeBy(derive(keys[WRITING], 'u', 0), writeSuite);
        }

        // ---- messages of both

        /** The CHAIN of the IDENTITY's first CERTIFICATES, with an ANSWER or without. */
        void buildChain(int n, Paper answer) {
            Row message = begin(CHAIN);
            message.put(n);
            for (int i = 0; i < n; i++) {
                Paper paper = house.papers[end.identity[i]];
                message.putTwo(paper.numbers[Paper.SIZE]);
                message.take(paper.bytes, 0, paper.numbers[Paper.SIZE]);
            }
            message.putTwo(answer == null ? 0 : answer.numbers[Paper.SIZE]);
            if (answer != null) {
                message.take(answer.bytes, 0, answer.numbers[Paper.SIZE]);
            }
        }

        /** What a PROOF is a SIGNATURE of. */
        private Row proven(int letter, long digest) {
            Row text = house.cipher;
            text.clear();
            text.put(letter);
            text.putSecret(digest);
            return text;
        }

        void buildProof(int letter, int scheme) {
            Row text = proven(letter, digestNow());
            long signature = house.mill.signed(scheme, end.key, text.bytes, 0, text.size);
            Row message = begin(PROOF);
            message.put(scheme);
            message.putSecret(signature);
        }

        void buildEnd(long key) {
            long value = endBy(key, digestNow());
            begin(END).putSecret(value);
        }

        /** The form of a CHAIN, what it shows, and whether it may be a PATH, which is the house's then: 0, or the ALERT. */
        private int checkChain(int whole) {
            boolean ofServer = !end.server;
            int n = pending.at(3);
            house.pathSize = 0;
            if (!isChain(whole) || ofServer && n == 0) {
                return 50;
            }
            int at = 4;
            for (int i = 0; i < n; i++) {
                int size = pending.twoAt(at);
                boolean good = Paper.fault(pending.bytes, at + 2, at + 2 + size, house.stack) < 0;
                if (!good || !house.shown[i].read(Paper.CERTIFICATE, pending.bytes, at + 2, size)) {
                    return 42;
                }
                at += 2 + size;
            }
            int size = pending.twoAt(at);
            if (!ofServer && n == 0 && end.settings[End.ASKS] == 2) {
                return 116;
            }
            if (!ofServer && size > 0) {
                return 50;
            }
            house.stapled = size > 0;
            boolean good = Paper.fault(pending.bytes, at + 2, at + 2 + size, house.stack) < 0;
            if (size > 0 && (!good || !house.staple.read(Paper.ANSWER, pending.bytes, at + 2, size))) {
                return 113;
            }
            return n == 0 ? 0 : house.lineUp(end, n);
        }

        private boolean isChain(int whole) {
            int n = whole > 3 ? pending.at(3) : 5;
            int at = 4;
            for (int i = 0; i <= n && n <= 4; i++) {
                if (at + 2 > whole) {
                    return false;
                }
                at += 2 + pending.twoAt(at);
            }
            return n <= 4 && at == whole;
        }

        /** ALERTS of the WHYS of a CHAIN's PATH. */
        static int alertOf(int why) {
            int kind = why % 100;
            return kind == 0 ? 0 : kind == 1 ? 42 : kind <= 3 ? 45 : kind <= 7 ? 46 : kind == 8 ? 44 : 113;
        }

        int checkProof(int whole, int letter) {
            if (whole != 12) {
                return 50;
            }
            int scheme = pending.at(3);
            if (!end.offers(End.SCHEMES, scheme)) {
                return 47;
            }
            Row text = proven(letter, digestNow());
            boolean good = house.mill.proves(scheme, otherPoint, pending.secretAt(4), text.bytes, 0, text.size);
            return good ? 0 : 51;
        }

        int checkEnd(int whole, long key) {
            return whole != 11 ? 50 : pending.secretAt(3) != endBy(key, digestNow()) ? 51 : 0;
        }

        int checkNewKeys(int whole) {
            return whole != 4 ? 50 : pending.at(3) > 1 ? 47 : 0;
        }

        void takeChain() {
            told[SHOWN] = pending.at(3);
            otherPoint = house.shown[0].numbers[Paper.POINT];
        }

        /** The key for reading is new; whether NEW KEYS are to be put, too. */
        boolean takeNewKeys() {
            readBy(derive(keys[READING], 'u', 0));
            return pending.at(3) == 1 && told[CLOSED] == 0;
        }
    }

    /** The side of a CLIENT. */
    private static final class Client extends Side {
        private static final int AT_ANSWER = 0;
        private static final int AT_BEGINNING = 1;
        private static final int AT_ASKING = 2;
        private static final int AT_CHAIN = 3;
        private static final int AT_PROOF = 4;
        private static final int AT_END = 5;
        private static final int OPEN = 6;
        private static final int NO_PLACE = -1;

        private long random;
        /** Of the SHARE that was put: its secret number, its GROUP; 0 without. */
        private int x;
        private int group;
        /** 0: HELLO had none. */
        private int modes;
        private final Shared[] offered = new Shared[End.SECRETS_MOST];
        private int offeredCount;
        private boolean earlyPut;
        private boolean retried;
        /** What ANSWER told: JOINT, and which of SHARED. */
        private long joint;
        private int place = NO_PLACE;
        private boolean asked;
        /** Bit s: SCHEME s was told. */
        private int askedSchemes;

        Client(House ofHouse, End ofEnd) {
            super(ofHouse, ofEnd);
        }

        /** Puts HELLO, and the early bytes if they go. */
        void greet() {
            random = end.drawSecret();
            gather();
            Shared first = offered[0];
            earlyPut = end.early.size > 0 && first != null && first.byTicket && first.allows >= end.early.size;
            buildHello(end.settings[End.SHARES] == 1 ? end.offers[End.GROUPS][0] : 0, null);
            addShared();
            send();
            if (earlyPut && first != null) {
                Mill mill = house.mill;
                long early = mill.keyedSecret(first.h, 0, first.secret);
                writeBy(mill.derive(first.h, early, 'e', digestBy(first.h)), first.suite);
                put(SEALED, end.early.bytes, 0, end.early.size);
            }
            end.early.clear();
        }

        /** The SHARED secrets that HELLO bears, and MODES with them. */
        private void gather() {
            for (int i = 0; i < end.secretCount; i++) {
                if (end.hashes(end.secrets[i].h)) {
                    offered[offeredCount] = end.secrets[i];
                    offeredCount++;
                }
            }
            if (offeredCount > 0) {
                modes = end.settings[End.WITHOUT] == 1 ? 3 : 2;
            }
        }

        /** Only those of an h stay. */
        private void sift(int h) {
            int count = 0;
            for (int i = 0; i < offeredCount; i++) {
                if (offered[i].h == h) {
                    offered[count] = offered[i];
                    count++;
                }
            }
            offeredCount = count;
        }

        /** HELLO but for SHARED, with a SHARE of a GROUP (0: none) and what RETRY told. */
        private void buildHello(int shareGroup, Fields retry) {
            Row message = begin(HELLO);
            message.putSecret(random);
            message.put(Fields.VERSIONS);
            message.putTwo(1);
            message.put(4);
            putOffers(message, Fields.SUITES, End.SUITES);
            putOffers(message, Fields.GROUPS, End.GROUPS);
            group = shareGroup;
            if (group != 0) {
                x = end.drawNumber();
                message.put(Fields.SHARE);
                message.putTwo(5);
                message.put(group);
                message.putFour(house.mill.groupPoint(group, x));
            }
            putOffers(message, Fields.SCHEMES, End.SCHEMES);
            if (end.host.size > 0) {
                message.put(Fields.HOST);
                message.putTwo(end.host.size);
                message.take(end.host.bytes, 0, end.host.size);
            }
            if (modes != 0) {
                message.put(Fields.MODES);
                message.putTwo(1);
                message.put(modes);
            }
            if (earlyPut) {
                message.put(Fields.EARLY);
                message.putTwo(0);
            }
            if (retry != null && retry.has(Fields.COOKIE)) {
                message.put(Fields.COOKIE);
                message.putTwo(8);
                message.putSecret(retry.secretOf(Fields.COOKIE, 0));
            }
        }

        /** The last FIELD of HELLO, with the BINDERS. */
        private void addShared() {
            Row message = house.message;
            if (offeredCount == 0) {
                return;
            }
            int size = 1;
            for (int i = 0; i < offeredCount; i++) {
                size += 1 + offered[i].id.length + 4 + 8;
            }
            message.put(Fields.SHARED);
            message.putTwo(size);
            message.put(offeredCount);
            for (int i = 0; i < offeredCount; i++) {
                message.put(offered[i].id.length);
                message.take(offered[i].id, 0, offered[i].id.length);
                message.putFour(offered[i].byTicket ? house.time - offered[i].came : 0);
            }
            int to = message.size;
            measure(message, 8 * offeredCount);
            for (int i = 0; i < offeredCount; i++) {
                message.putSecret(binder(offered[i].h, offered[i].secret, message.bytes, to));
            }
        }

        private boolean may(int type) {
            switch (stage) {
                case AT_ANSWER:
                    return type == ANSWER || type == RETRY && !retried;
                case AT_BEGINNING:
                    return type == BEGINNING;
                case AT_ASKING:
                    return type == ASKING || type == CHAIN;
                case AT_CHAIN:
                    return type == CHAIN;
                case AT_PROOF:
                    return type == PROOF;
                case AT_END:
                    return type == END;
                default:
                    return type == TICKET || type == NEW_KEYS;
            }
        }

        int check(int type, int whole) {
            if (!may(type)) {
                return 10;
            }
            switch (type) {
                case ANSWER:
                    return checkAnswer(whole);
                case RETRY:
                    return checkRetry(whole);
                case BEGINNING:
                    return checkBeginning(whole);
                case ASKING:
                    return checkAsking(whole);
                case PROOF:
                    return checkProof(whole, 'S');
                case END:
                    return checkEnd(whole, serverKey);
                case TICKET:
                    return whole == 20 ? 0 : 50;
                case NEW_KEYS:
                    return checkNewKeys(whole);
                default:
                    return 0;
            }
        }

        boolean turnsKey(int type) {
            return type == ANSWER || type == END || type == NEW_KEYS;
        }

        boolean mayHear(int n) {
            return stage == OPEN;
        }

        int chainFault(int why) {
            int fault = alertOf(why);
            Paper first = house.shown[0];
            boolean met = fault != 0 || end.host.size == 0;
            for (int i = 0; i < first.numbers[Paper.NAME_COUNT] && !met; i++) {
                met = first.meets(Paper.NAMES + i, end.host.bytes, end.host.size);
            }
            return met ? fault : 42;
        }

        private int checkAnswer(int whole) {
            if (whole < 12) {
                return 50;
            }
            Fields fields = house.fields;
            int fault = fields.read(pending.bytes, 12, whole, ANSWER);
            if (fault != 0 || fields.others) {
                return fault != 0 ? fault : 110;
            }
            int suite = pending.at(11);
            boolean chosen = fields.has(Fields.SHARED);
            boolean shares = fields.has(Fields.SHARE);
            if (!end.offers(End.SUITES, suite) || retried && suite != told[SUITE]) {
                return 47;
            }
            int which = chosen ? fields.byteOf(Fields.SHARED, 0) : NO_PLACE;
            if (chosen && (which >= offeredCount || offered[which].h != Mill.hashOf(suite))) {
                return 47;
            }
            if (!shares) {
                joint = 0;
                place = which;
                return !chosen ? 109 : (modes & 1) == 0 ? 47 : 0;
            }
            if (group == 0 || fields.byteOf(Fields.SHARE, 0) != group) {
                return 47;
            }
            joint = house.mill.jointOf(group, x, fields.fourOf(Fields.SHARE, 1));
            place = which;
            return joint == 0 ? 47 : 0;
        }

        private int checkRetry(int whole) {
            if (whole < 4) {
                return 50;
            }
            Fields fields = house.fields;
            int fault = fields.read(pending.bytes, 4, whole, RETRY);
            if (fault != 0 || fields.others) {
                return fault != 0 ? fault : 110;
            }
            int wanted = fields.byteOf(Fields.GROUPS, 0);
            boolean good = end.offers(End.SUITES, pending.at(3)) && fields.has(Fields.GROUPS)
                && end.offers(End.GROUPS, wanted) && wanted != group;
            return good ? 0 : 47;
        }

        private int checkBeginning(int whole) {
            int fault = house.fields.read(pending.bytes, 3, whole, BEGINNING);
            if (fault != 0) {
                return fault;
            }
            boolean taken = house.fields.has(Fields.EARLY);
            return house.fields.others || taken && !earlyPut ? 110 : taken && place != 0 ? 47 : 0;
        }

        private int checkAsking(int whole) {
            int fault = house.fields.read(pending.bytes, 3, whole, ASKING);
            if (fault != 0) {
                return fault;
            }
            return house.fields.others ? 110 : house.fields.has(Fields.SCHEMES) ? 0 : 109;
        }

        void act(int type, int whole) {
            if (type == RETRY) {
                told[SUITE] = pending.at(3);
                shorten();
            } else if (type == ANSWER) {
                told[SUITE] = pending.at(11);
            }
            note(type, pending.bytes, whole);
            switch (type) {
                case ANSWER:
                    makeHand(place == NO_PLACE ? 0 : offered[place].secret, joint);
                    takeAnswer();
                    break;
                case RETRY:
                    takeRetry();
                    buildHello(house.fields.byteOf(Fields.GROUPS, 0), house.fields);
                    addShared();
                    send();
                    break;
                case END:
                    readBy(makeMaster());
                    if (told[EARLY_TAKEN] == 1) {
                        begin(EARLYS_END);
                        send();
                        writeBy(clientKey, told[SUITE]);
                    }
                    if (asked) {
                        int scheme = provingScheme();
                        buildChain(scheme == 0 ? 0 : end.identityCount, null);
                        send();
                        if (scheme != 0) {
                            buildProof('C', scheme);
                            send();
                        }
                    }
                    buildEnd(clientKey);
                    send();
                    makeNext();
                    writeBy(sayingKey, told[SUITE]);
                    told[STATE] = 1;
                    stage = OPEN;
                    break;
                case TICKET:
                    takeTicket();
                    break;
                case NEW_KEYS:
                    if (takeNewKeys()) {
                        buildNewKeys(0);
                        send();
                        turnWriting();
                    }
                    break;
                default:
                    takeShown(type);
                    break;
            }
        }

        /** What a server tells between its ANSWER and its END. */
        private void takeShown(int type) {
            if (type == BEGINNING) {
                takeBeginning();
            } else if (type == ASKING) {
                takeAsking();
            } else if (type == CHAIN) {
                takeChain();
                stage = AT_PROOF;
            } else {
                told[SCHEME] = pending.at(3);
                stage = AT_END;
            }
        }

        private void takeAnswer() {
            Shared used = place == NO_PLACE ? null : offered[place];
            told[GROUP] = joint == 0 ? 0 : group;
            told[USED] = used == null ? 0 : used.byTicket ? 2 : 1;
            readBy(serverKey);
            if (!earlyPut) {
                writeBy(clientKey, told[SUITE]);
            }
            stage = AT_BEGINNING;
        }

        private void takeRetry() {
            retried = true;
            earlyPut = false;
            writeOpenly();
            sift(hash());
        }

        private void takeBeginning() {
            told[EARLY_TAKEN] = house.fields.has(Fields.EARLY) ? 1 : 0;
            if (earlyPut && told[EARLY_TAKEN] == 0) {
                writeBy(clientKey, told[SUITE]);
            }
            stage = place == NO_PLACE ? AT_ASKING : AT_END;
        }

        private void takeAsking() {
            asked = true;
            for (int scheme = 1; scheme <= 2; scheme++) {
                askedSchemes |= house.fields.tells(Fields.SCHEMES, scheme) ? 1 << scheme : 0;
            }
            stage = AT_CHAIN;
        }

        /** The first of its SCHEMES that was told; 0 also without an IDENTITY. */
        private int provingScheme() {
            for (int i = 0; i < 4 && end.identityCount > 0; i++) {
                int scheme = end.offers[End.SCHEMES][i];
                if (scheme > 0 && (askedSchemes >>> scheme & 1) == 1) {
                    return scheme;
                }
            }
            return 0;
        }

        private void takeTicket() {
            if (end.secretCount >= End.SECRETS_MOST) {
                return;
            }
            Row id = house.message;
            id.clear();
            id.putSecret(pending.secretAt(11));
            Shared ticket = new Shared(id, hash(), derive(keys[NEXT], 't', pending.at(19)));
            ticket.becomeTicket(told[SUITE], pending.fourAt(3), pending.fourAt(7), house.time);
            end.keep(ticket);
        }
    }

    /** The side of a SERVER. */
    private static final class Server extends Side {
        private static final int AT_HELLO = 0;
        private static final int AT_EARLYS_END = 1;
        private static final int AT_CHAIN = 2;
        private static final int AT_PROOF = 3;
        private static final int AT_END = 4;
        private static final int OPEN = 5;

        /** What is to be told by ANSWER or RETRY. */
        private int suite;
        private int group;
        private int scheme;
        private Shared used;
        private int place;
        private boolean exchanges;
        private boolean retries;
        private long random;
        private int x;
        private long joint;
        private boolean takesEarly;
        private int earlyCount;
        private boolean asks;
        /** Behind RETRY: the BODY of the first HELLO, and COOKIE. */
        private Row first;
        private long cookie;

        Server(House ofHouse, End ofEnd) {
            super(ofHouse, ofEnd);
        }

        private boolean may(int type) {
            switch (stage) {
                case AT_HELLO:
                    return type == HELLO;
                case AT_EARLYS_END:
                    return type == EARLYS_END;
                case AT_CHAIN:
                    return type == CHAIN;
                case AT_PROOF:
                    return type == PROOF;
                case AT_END:
                    return type == END;
                default:
                    return type == NEW_KEYS;
            }
        }

        int check(int type, int whole) {
            if (!may(type)) {
                return 10;
            }
            switch (type) {
                case HELLO:
                    return checkHello(whole);
                case EARLYS_END:
                    return whole == 3 ? 0 : 50;
                case PROOF:
                    return checkProof(whole, 'C');
                case END:
                    return checkEnd(whole, clientKey);
                case NEW_KEYS:
                    return checkNewKeys(whole);
                default:
                    return 0;
            }
        }

        boolean turnsKey(int type) {
            return type == HELLO && !retries || type == EARLYS_END || type == END || type == NEW_KEYS;
        }

        boolean mayHear(int n) {
            if (stage != AT_EARLYS_END) {
                return stage == OPEN;
            }
            if (earlyCount + n > end.settings[End.EARLY]) {
                return false;
            }
            earlyCount += n;
            return true;
        }

        int chainFault(int why) {
            return alertOf(why);
        }

        private int checkHello(int whole) {
            Fields fields = house.fields;
            if (whole < 11) {
                return 50;
            }
            int fault = fields.read(pending.bytes, 11, whole, HELLO);
            if (fault != 0) {
                return fault;
            }
            if (!fields.tells(Fields.VERSIONS, 4)) {
                return 70;
            }
            if (first != null && !isAgain(fields)) {
                return 47;
            }
            if (!fields.has(Fields.SUITES)) {
                return 109;
            }
            suite = first != null ? told[SUITE] : end.firstIn(End.SUITES, fields, Fields.SUITES);
            if (suite == 0) {
                return 40;
            }
            used = null;
            if (fields.has(Fields.SHARED)) {
                if (!fields.has(Fields.MODES)) {
                    return 109;
                }
                findUsed(fields);
            }
            if (used != null) {
                long due = binder(used.h, used.secret, pending.bytes, fields.binders);
                if (pending.secretAt(fields.binders + 8 * place) != due) {
                    return 51;
                }
            }
            fault = checkWays(fields);
            retries = exchanges && (!fields.has(Fields.SHARE) || fields.byteOf(Fields.SHARE, 0) != group);
            if (fault != 0 || retries) {
                return fault;
            }
            random = end.drawSecret();
            joint = 0;
            if (exchanges) {
                x = end.drawNumber();
                joint = house.mill.jointOf(group, x, fields.fourOf(Fields.SHARE, 1));
            }
            return exchanges && joint == 0 ? 47 : 0;
        }

        /** Whether a HELLO behind RETRY is as it should be. */
        private boolean isAgain(Fields fields) {
            Fields before = house.before;
            before.read(first.bytes, 8, first.size, HELLO);
            for (int kind = Fields.VERSIONS; kind <= Fields.MODES; kind++) {
                if (kind != Fields.SHARE && !fields.isSame(kind, before)) {
                    return false;
                }
            }
            return pending.secretAt(3) == first.secretAt(0) && !fields.has(Fields.EARLY)
                && fields.has(Fields.COOKIE) && fields.secretOf(Fields.COOKIE, 0) == cookie
                && fields.has(Fields.SHARE) && fields.byteOf(Fields.SHARE, 0) == group;
        }

        /** The first of SHARED that the end KNOWS, and its place. */
        private void findUsed(Fields fields) {
            int at = fields.starts[Fields.SHARED] + 1;
            int count = fields.byteOf(Fields.SHARED, 0);
            for (int i = 0; i < count && used == null; i++) {
                int size = pending.at(at);
                used = end.known(pending.bytes, at + 1, at + 1 + size, Mill.hashOf(suite), house.time);
                place = i;
                at += 1 + size + 4;
            }
        }

        /** How keys are to come about: by what is used, with an exchange or without. */
        private int checkWays(Fields fields) {
            int modes = fields.byteOf(Fields.MODES, 0);
            if (!fields.has(Fields.GROUPS) && (used == null || modes != 1)) {
                return 109;
            }
            group = first != null ? group : end.firstIn(End.GROUPS, fields, Fields.GROUPS);
            exchanges = used == null || (modes & 2) != 0 && group != 0;
            if (used != null && !exchanges && ((modes & 1) == 0 || end.settings[End.WITHOUT] == 0)) {
                used = null;
                exchanges = true;
            }
            scheme = 0;
            if (used != null) {
                return 0;
            }
            if (group == 0) {
                return 40;
            }
            if (!fields.has(Fields.SCHEMES)) {
                return 109;
            }
            scheme = end.firstIn(End.SCHEMES, fields, Fields.SCHEMES);
            return scheme == 0 || end.identityCount == 0 ? 40 : 0;
        }

        /** Whether the EARLY of this HELLO is taken. */
        private boolean isEarlyTaken(Fields fields) {
            if (!fields.has(Fields.EARLY) || first != null || used == null || place != 0 || !used.byTicket) {
                return false;
            }
            int size = fields.byteOf(Fields.SHARED, 1);
            long off = (long) fields.fourOf(Fields.SHARED, 2 + size) - (house.time - used.came);
            return used.suite == suite && !used.earlyTaken && end.settings[End.EARLY] > 0
                && Math.abs(off) <= end.settings[End.WINDOW];
        }

        void act(int type, int whole) {
            note(type, pending.bytes, whole);
            switch (type) {
                case HELLO:
                    told[SUITE] = suite;
                    drops = drops || house.fields.has(Fields.EARLY);
                    if (retries) {
                        buildRetry(whole);
                        send();
                    } else {
                        long behindHello = digestNow();
                        buildAnswer();
                        send();
                        makeHand(used == null ? 0 : used.secret, joint);
                        startKeys(behindHello);
                        buildBeginning();
                        send();
                        if (asks) {
                            buildAsking();
                            send();
                        }
                        if (used == null) {
                            buildChain(end.identityCount, house.answerOf(house.papers[end.identity[0]]));
                            send();
                            buildProof('S', scheme);
                            send();
                        }
                        buildEnd(serverKey);
                        send();
                        writeBy(makeMaster(), suite);
                    }
                    break;
                case END:
                    makeNext();
                    readBy(sayingKey);
                    told[STATE] = 1;
                    stage = OPEN;
                    for (int i = 0; i < end.settings[End.TICKETS]; i++) {
                        buildTicket(i);
                        send();
                    }
                    break;
                case NEW_KEYS:
                    if (takeNewKeys()) {
                        buildNewKeys(0);
                        send();
                        turnWriting();
                    }
                    break;
                default:
                    takeShown(type);
                    break;
            }
        }

        /** What a client puts ahead of its END. */
        private void takeShown(int type) {
            stage = AT_END;
            if (type == EARLYS_END) {
                readBy(clientKey);
            } else if (type == CHAIN) {
                takeChain();
                stage = told[SHOWN] == 0 ? AT_END : AT_PROOF;
            }
        }

        private void buildRetry(int whole) {
            shorten();
            first = new Row(whole - 3);
            first.take(pending.bytes, 3, whole);
            cookie = house.mill.derive(0, 0, 'k', house.mill.digestOf(0, pending.bytes, 3, whole));
            Row message = begin(RETRY);
            message.put(suite);
            message.put(Fields.GROUPS);
            message.putTwo(1);
            message.put(group);
            message.put(Fields.COOKIE);
            message.putTwo(8);
            message.putSecret(cookie);
        }

        private void buildAnswer() {
            Row message = begin(ANSWER);
            message.putSecret(random);
            message.put(suite);
            if (exchanges) {
                message.put(Fields.SHARE);
                message.putTwo(5);
                message.put(group);
                message.putFour(house.mill.groupPoint(group, x));
            }
            if (used != null) {
                message.put(Fields.SHARED);
                message.putTwo(1);
                message.put(place);
            }
        }

        /** What is told, and the keys, behind ANSWER. */
        private void startKeys(long behindHello) {
            takesEarly = isEarlyTaken(house.fields);
            asks = used == null && end.settings[End.ASKS] != 0;
            told[GROUP] = exchanges ? group : 0;
            told[SCHEME] = scheme;
            told[USED] = used == null ? 0 : used.byTicket ? 2 : 1;
            writeBy(serverKey, suite);
            if (takesEarly && used != null) {
                used.earlyTaken = true;
                drops = false;
                told[EARLY_TAKEN] = 1;
                readBy(derive(keys[EARLY], 'e', behindHello));
            } else {
                readBy(clientKey);
            }
            stage = takesEarly ? AT_EARLYS_END : asks ? AT_CHAIN : AT_END;
        }

        private void buildBeginning() {
            Row message = begin(BEGINNING);
            if (takesEarly) {
                message.put(Fields.EARLY);
                message.putTwo(0);
            }
        }

        private void buildAsking() {
            putOffers(begin(ASKING), Fields.SCHEMES, End.SCHEMES);
        }

        private void buildTicket(int which) {
            int life = end.settings[End.LIFE];
            int early = end.settings[End.EARLY];
            if (end.given == 0) {
                end.ticketSecret = end.drawSecret();
            }
            long id = end.nextTicket(house.mill);
            Row name = house.cipher;
            name.clear();
            name.putSecret(id);
            Shared ticket = new Shared(name, hash(), derive(keys[NEXT], 't', which));
            ticket.becomeTicket(told[SUITE], life, early, house.time);
            end.note(ticket);
            Row message = begin(TICKET);
            message.putFour(life);
            message.putFour(early);
            message.putSecret(id);
            message.put(which);
        }
    }

    /** An OFFICE: its ACCOUNTS, its ORDERS, what it gave and what it REVOKED. */
    private static final class Office {
        private static final int ACCOUNTS_MOST = 8;
        private static final int ORDERS_MOST = 12;
        private static final int PATTERNS_MOST = 3;
        private static final int REVOKED_MOST = 40;
        private static final int NUMBER_MOST = 2147483647;
        private static final int PENDING = 0;
        private static final int READY = 1;
        private static final int VALID = 2;
        private static final int INVALID = 3;
        private static final int RIGHT = 1;
        private static final int WRONG = 2;

        private final House house;
        private final Paper paper;
        private final int key;
        private final int scheme;
        private final long[] accounts = new long[ACCOUNTS_MOST];
        private int accountCount;
        private final int[] states = new int[ORDERS_MOST];
        private final int[] owners = new int[ORDERS_MOST];
        private final int[] issued = new int[ORDERS_MOST];
        private final int[] patternCounts = new int[ORDERS_MOST];
        private int orderCount;
        /** Three of each order. */
        private final Row[] patterns = new Row[PATTERNS_MOST * ORDERS_MOST];
        private final int[] tokens = new int[PATTERNS_MOST * ORDERS_MOST];
        private final int[] looks = new int[PATTERNS_MOST * ORDERS_MOST];
        private int tokenCount;
        private int serialCount;
        private final int[] revoked = new int[REVOKED_MOST];
        private int revokedCount;
        private int listCount;

        Office(House ofHouse, Paper ofPaper, int x, int ofScheme) {
            house = ofHouse;
            paper = ofPaper;
            key = x;
            scheme = ofScheme;
        }

        int openAccount(long secret) {
            if (accountCount >= ACCOUNTS_MOST) {
                return FULL;
            }
            accounts[accountCount] = secret;
            accountCount++;
            return accountCount - 1;
        }

        int takeOrder(int account, Row text) {
            int count = countPatterns(text);
            if (count < 1) {
                return NO;
            }
            if (orderCount >= ORDERS_MOST) {
                return FULL;
            }
            int from = 0;
            for (int k = 0; k < count; k++) {
                int to = comma(text, from);
                int place = PATTERNS_MOST * orderCount + k;
                patterns[place] = new Row(to - from);
                patterns[place].take(text.bytes, from, to);
                tokenCount++;
                tokens[place] = tokenCount;
                from = to + 1;
            }
            patternCounts[orderCount] = count;
            owners[orderCount] = account;
            issued[orderCount] = NONE;
            orderCount++;
            return orderCount - 1;
        }

        /** Where the next , stands from a place on, or the end. */
        private static int comma(Row text, int from) {
            int at = from;
            while (at < text.size && text.at(at) != ',') {
                at++;
            }
            return at;
        }

        /** How many PATTERNS a text is; 0 if it is not one to three different ones. */
        private static int countPatterns(Row text) {
            int[] starts = new int[PATTERNS_MOST];
            int count = 0;
            int from = 0;
            while (from <= text.size) {
                int to = comma(text, from);
                if (count == PATTERNS_MOST || !Paper.isPattern(text.bytes, from, to)) {
                    return 0;
                }
                for (int i = 0; i < count; i++) {
                    if (Row.same(text.bytes, starts[i], comma(text, starts[i]), text.bytes, from, to)) {
                        return 0;
                    }
                }
                starts[count] = from;
                count++;
                from = to + 1;
            }
            return count;
        }

        int fact(int order, int what) {
            switch (what) {
                case 0:
                    return states[order];
                case 1:
                    return owners[order];
                case 2:
                    return patternCounts[order];
                case 3:
                    return issued[order];
                default:
                    int k = what % 10;
                    if (what < 10 || what >= 30 || k >= patternCounts[order]) {
                        return BAD;
                    }
                    return what < 20 ? tokens[PATTERNS_MOST * order + k] : looks[PATTERNS_MOST * order + k];
            }
        }

        /** Whether a CHALLENGE may be looked at. */
        boolean isOpen(int order, int k) {
            return states[order] == PENDING && looks[PATTERNS_MOST * order + k] == 0;
        }

        /** The SECRET by which a CHALLENGE is met. */
        long due(int order, int k) {
            return house.mill.derive(0, accounts[owners[order]], 'z', tokens[PATTERNS_MOST * order + k]);
        }

        int look(int order, int k, boolean met) {
            int base = PATTERNS_MOST * order;
            looks[base + k] = met ? RIGHT : WRONG;
            boolean all = true;
            for (int i = 0; i < patternCounts[order]; i++) {
                all = all && looks[base + i] == RIGHT;
            }
            states[order] = !met ? INVALID : all ? READY : PENDING;
            return looks[base + k];
        }

        boolean gave(int serial) {
            return serial >= 1 && serial <= serialCount;
        }

        int issueOrder(int order, int y, int minutes) {
            if (states[order] != READY) {
                return NO;
            }
            if (house.paperCount >= House.CERTIFICATES_MOST) {
                return FULL;
            }
            int got = house.hold(Paper.CERTIFICATE, sealed(certificateFor(order, y, minutes)));
            if (got >= 0) {
                serialCount++;
                states[order] = VALID;
                issued[order] = got;
            }
            return got;
        }

        /** What INNER bears of a CERTIFICATE for an ORDER. */
        private Row certificateFor(int order, int y, int minutes) {
            int base = PATTERNS_MOST * order;
            Row inside = house.cipher;
            inside.clear();
            inside.putNumber(serialCount + 1);
            putIssuer(inside);
            Row subject = patterns[base];
            inside.putNode(Paper.TAG_NAME, subject.bytes, Paper.behindStar(subject.bytes, 0, subject.size), subject.size);
            putTimes(inside, minutes);
            inside.putHeader(Paper.TAG_BYTES, 4);
            inside.putFour(y);
            inside.putHeader(Paper.TAG_USES, 1);
            inside.put(3);
            int size = 0;
            for (int i = 0; i < patternCounts[order]; i++) {
                size += 2 + patterns[base + i].size;
            }
            inside.putHeader(Paper.TAG_NAMES, size);
            for (int i = 0; i < patternCounts[order]; i++) {
                inside.putNode(Paper.TAG_NAME, patterns[base + i].bytes, 0, patterns[base + i].size);
            }
            return inside;
        }

        private void putIssuer(Row inside) {
            inside.putNode(Paper.TAG_NAME, paper.bytes, paper.start(Paper.SUBJECT), paper.stop(Paper.SUBJECT));
        }

        /** FROM, TO, SCHEME. */
        private void putTimes(Row inside, int minutes) {
            inside.putNumber(house.time);
            inside.putNumber((int) Math.min(NUMBER_MOST, (long) house.time + minutes));
            inside.putNumber(scheme);
        }

        /** 48 { 48 { what was built }; the SIGNATURE }. */
        private Row sealed(Row inside) {
            Row inner = house.inner;
            inner.clear();
            inner.putNode(Paper.TAG_NODES, inside.bytes, 0, inside.size);
            house.wrapRow(inner, scheme, key, house.message);
            return house.message;
        }

        private boolean isRevoked(int serial) {
            for (int i = 0; i < revokedCount; i++) {
                if (revoked[i] == serial) {
                    return true;
                }
            }
            return false;
        }

        int revokeSerial(int serial) {
            if (isRevoked(serial)) {
                return NO;
            }
            if (revokedCount >= REVOKED_MOST) {
                return FULL;
            }
            int at = revokedCount;
            for (; at > 0 && revoked[at - 1] > serial; at--) {
                revoked[at] = revoked[at - 1];
            }
            revoked[at] = serial;
            revokedCount++;
            return revokedCount;
        }

        int publishList(int minutes) {
            Row inside = house.cipher;
            inside.clear();
            putIssuer(inside);
            inside.putNumber(listCount + 1);
            putTimes(inside, minutes);
            inside.putHeader(Paper.TAG_BYTES, 4 * revokedCount);
            for (int i = 0; i < revokedCount; i++) {
                inside.putFour(revoked[i]);
            }
            int got = house.hold(Paper.LIST, sealed(inside));
            listCount += got >= 0 ? 1 : 0;
            return got;
        }

        int answerFor(int serial, int minutes) {
            Row inside = house.cipher;
            inside.clear();
            putIssuer(inside);
            inside.putNumber(serial);
            inside.putNumber(isRevoked(serial) ? 1 : 0);
            putTimes(inside, minutes);
            return house.hold(Paper.ANSWER, sealed(inside));
        }
    }
}
