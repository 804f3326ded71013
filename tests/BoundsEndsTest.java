import java.util.Arrays;

/** Promises 29 to 39 at their bounds: ends and what they have. */
public final class BoundsEndsTest {
    private static final String FORTY = "abcdefghijklmnopqrstuvwxyz0123456789-a.c";
    /** None of these is an end, where two are. */
    private static final int[] NO_END = {2, -1, 8, Integer.MIN_VALUE, Integer.MAX_VALUE};

    public static void main(String[] args) throws ReflectiveOperationException {
        Bounds.run(BoundsEndsTest.class);
    }

    /** End 0 a client, end 1 a server. */
    private static SecureLines two() {
        SecureLines x = new SecureLines();
        x.end(0);
        x.end(1);
        return x;
    }

    // ---- 29 end

    /** "ENDS (8)"; "BAD, FULL". */
    static void promise29_rolesAndEight() {
        SecureLines x = new SecureLines();
        int[] bad = {-1, 2, Integer.MIN_VALUE, Integer.MAX_VALUE};
        for (int role : bad) {
            Check.due("role " + role, x.end(role), -1);
        }
        for (int i = 0; i < 8; i++) {
            Check.due("end", x.end(i & 1), i);
        }
        Check.due("the ninth", x.end(0), -3);
        Check.due("the ninth", x.end(1), -3);
        Check.due("BAD ahead of FULL", x.end(2), -1);
        Check.due("the last is there", x.setting(7, 0, 0), 0);
        Check.due("no ninth is", x.setting(8, 0, 0), -1);
    }

    // ---- 30 offer

    /** "the bytes of a number, the highest first, 0s not counted"; "BAD: none, one twice, none such": all of 0 .. 4. */
    static void promise30_allNumbers() {
        SecureLines x = two();
        for (int code = 0; code < 625; code++) {
            int row = code / 125 << 24 | code / 25 % 5 << 16 | code / 5 % 5 << 8 | code % 5;
            for (int what = 0; what <= 2; what++) {
                Check.due("offer(0, " + what + ", " + row + ")", x.offer(0, what, row), due(row, what == 2 ? 2 : 3));
            }
        }
    }

    private static int due(int row, int most) {
        int count = 0;
        boolean[] seen = new boolean[256];
        for (byte one : Own.four(row)) {
            int v = one & 255;
            if (v > most || v > 0 && seen[v]) {
                return -1;
            }
            seen[v] = true;
            count += v > 0 ? 1 : 0;
        }
        return count == 0 ? -1 : count;
    }

    /** Bytes from 5 to 255 are none such, the highest one, too. */
    static void promise30_noneSuch() {
        SecureLines x = two();
        for (int what = 0; what <= 2; what++) {
            for (int v = what == 2 ? 3 : 4; v < 256; v++) {
                for (int shift = 0; shift < 32; shift += 8) {
                    Check.due("offer(0, " + what + ", " + v + " << " + shift + ")", x.offer(0, what, v << shift), -1);
                }
            }
            Check.due("-1", x.offer(0, what, -1), -1);
            Check.due("least", x.offer(0, what, Integer.MIN_VALUE), -1);
            Check.due("most", x.offer(0, what, Integer.MAX_VALUE), -1);
            Check.due("one and none such", x.offer(0, what, 0x80000001), -1);
        }
    }

    /** "BAD": end, what. A refused one changes nothing; what stands is the last one, in its order. */
    static void promise30_refusedOnesChangeNothing() {
        SecureLines x = two();
        for (int e : NO_END) {
            Check.due("end " + e, x.offer(e, 0, 1), -1);
        }
        int[] whats = {-1, 3, Integer.MIN_VALUE, Integer.MAX_VALUE};
        for (int what : whats) {
            Check.due("what " + what, x.offer(0, what, 1), -1);
        }
        int[][] rows = {{1, 2, 3}, {1, 2, 3}, {1, 2}};
        dueOffers(x, rows);
        x.offer(0, 0, 0x03010002);
        x.offer(0, 1, 0x00000200);
        x.offer(0, 2, 0x02000001);
        int[] bad = {0, 4, 0x0101, 0x03030000, -1};
        for (int row : bad) {
            for (int what = 0; what <= 2; what++) {
                Check.due("refused", x.offer(0, what, row), -1);
            }
        }
        int[][] then = {{3, 1, 2}, {2}, {2, 1}};
        dueOffers(x, then);
    }

    private static void dueOffers(SecureLines x, int[][] rows) {
        Peer peer = World.toClient(x);
        int[] kinds = {2, 3, 5};
        for (int what = 0; what <= 2; what++) {
            Check.that("OFFERED " + what, Arrays.equals(peer.helloFields.get(kinds[what]), Own.bytes(rows[what])));
        }
    }

    // ---- 31 setting

    /** Each SETTING: one below its least, its least, its most, one above, at first; "BAD: also one of the other role". */
    static void promise31_leastAndMost() {
        int[] first = {0, 0, 1, 60, 0, 1, 0, 2};
        int[] most = {1, 2, 3, 10000, 400, 1, 1, 100};
        for (int what = 0; what < 8; what++) {
            SecureLines x = two();
            int owner = what == 5 ? 0 : 1;
            for (int e = 0; e < 2; e++) {
                boolean has = what == 0 || what == 6 || e == owner;
                String call = "setting(" + e + ", " + what + ")";
                int[] bad = {-1, most[what] + 1, Integer.MIN_VALUE, Integer.MAX_VALUE};
                for (int v : bad) {
                    Check.due(call + " to " + v, x.setting(e, what, v), -1);
                }
                Check.due(call + " at first", x.setting(e, what, most[what]), has ? first[what] : -1);
                Check.due(call + " was the most", x.setting(e, what, 0), has ? most[what] : -1);
                Check.due(call + " was 0", x.setting(e, what, most[what] - 1), has ? 0 : -1);
                Check.due(call + " refused", x.setting(e, what, most[what] + 1), -1);
                Check.due(call + " stays then", x.setting(e, what, 0), has ? most[what] - 1 : -1);
            }
        }
    }

    /** "BAD": no such end, no such SETTING. */
    static void promise31_endAndWhat() {
        SecureLines x = two();
        for (int e : NO_END) {
            Check.due("end " + e, x.setting(e, 0, 0), -1);
        }
        int[] whats = {-1, 8, Integer.MIN_VALUE, Integer.MAX_VALUE};
        for (int what : whats) {
            Check.due("what " + what, x.setting(0, what, 0), -1);
            Check.due("what " + what, x.setting(1, what, 0), -1);
        }
    }

    // ---- 32 random

    /** "a TAPE of its own, of 200 bytes at most"; "FULL: above 200": THE TAPE and the end's stay. */
    static void promise32_200AreTheMost() {
        SecureLines x = two();
        Own.feed(x, Own.rowOf(199, 1));
        Check.due("199", x.random(0), 199);
        Own.feed(x, Own.bytes(2, 3));
        Check.due("201", x.random(0), -3);
        Check.due("THE TAPE stays", x.cut(1), 1);
        Check.due("200", x.random(0), 200);
        Check.due("it took THE TAPE", x.cut(0), 0);
        Check.due("nothing to 200", x.random(0), 200);
        x.feed(1, 9);
        Check.due("one more", x.random(0), -3);
        Check.due("another end has its own", x.random(1), 1);
        Own.feed(x, Own.rowOf(201, 1));
        Check.due("201 at once", x.random(1), -3);
        Check.due("THE TAPE stays", x.cut(199), 2);
        Check.due("199 and one", x.random(1), 200);
    }

    /** "BAD" ahead of "FULL". */
    static void promise32_noSuchEnd() {
        SecureLines x = two();
        Own.feed(x, Own.rowOf(201, 1));
        for (int e : NO_END) {
            Check.due("end " + e, x.random(e), -1);
        }
        Check.due("THE TAPE stays", x.cut(0), 201);
        Check.due("nothing", x.random(0), 0);
    }

    /** "whose bytes are taken one by one (0s when it is empty)": also within one RANDOM; there is room again then. */
    static void promise32_0sWhenItIsEmpty() {
        for (int n = 0; n <= 13; n++) {
            SecureLines x = two();
            Own.feed(x, Own.rowOf(n, 255));
            x.random(0);
            Peer peer = World.toClient(x);
            byte[] drawn = Own.cat(Own.rowOf(Math.min(n, 12), 255), Own.rowOf(12 - Math.min(n, 12), 0));
            Check.due("RANDOM of " + n, Own.secretOf(peer.hello, 0), Own.secretOf(drawn, 0));
            int number = 2 + (Own.fourOf(drawn, 8) & 0x3fffffff);
            Check.due("x of " + n, Own.fourOf(peer.helloFields.get(4), 1), Own.point(1, number));
            Check.due("what is left", x.random(0), Math.max(0, n - 12));
        }
        SecureLines y = two();
        Own.feed(y, Own.rowOf(200, 7));
        y.random(0);
        y.connection(0, -1);
        Own.feed(y, Own.rowOf(12, 8));
        Check.due("12 went, 12 come", y.random(0), 200);
    }

    // ---- 33 trust

    /** "BAD": end, CERTIFICATE. */
    static void promise33_refusals() {
        SecureLines x = two();
        Check.due("none is held", x.trust(0, 0), -1);
        Own.hold(x, World.root());
        for (int e : NO_END) {
            Check.due("end " + e, x.trust(e, 0), -1);
        }
        int[] bad = {1, -1, 30, Integer.MIN_VALUE, Integer.MAX_VALUE};
        for (int c : bad) {
            Check.due("certificate " + c, x.trust(0, c), -1);
        }
        Check.due("the first", x.trust(0, 0), 1);
    }

    /** "(behind those it has; one with bytes that one has is that)": from none to all 30. */
    static void promise33_fromNoneTo30() {
        SecureLines x = two();
        for (int i = 0; i < 30; i++) {
            Own.hold(x, new Cert("a", "a", 9).serial(i + 1).by(9));
        }
        for (int i = 0; i < 30; i++) {
            Check.due("trust", x.trust(0, 29 - i), i + 1);
            Check.due("again", x.trust(0, 29 - i), i + 1);
            Check.due("the first again", x.trust(0, 29), i + 1);
        }
        Check.due("another end has none", x.trust(1, 5), 1);
    }

    // ---- 34 identity

    /** "BAD: end, KEY": THE ROW stays. */
    static void promise34_endAndKey() {
        SecureLines x = World.both();
        x.row(2);
        for (int e : NO_END) {
            Check.due("end " + e, x.identity(e, World.CLIENT), -1);
        }
        int[] keys = {0, -1, Own.Q, Own.P, Integer.MIN_VALUE, Integer.MAX_VALUE};
        for (int key : keys) {
            Check.due("key " + key, x.identity(0, key), -1);
        }
        Check.due("THE ROW stays", x.step(-1), 1);
        Check.due("identity", x.identity(0, World.CLIENT), 1);
        Check.due("THE ROW is empty", x.step(-1), 0);
        SecureLines y = two();
        Cert least = new Cert("a", "a", 1);
        Cert most = new Cert("b", "b", Own.Q - 1);
        Own.hold(y, least.by(9));
        Own.hold(y, most.by(9));
        y.row(0);
        Check.due("key 1", y.identity(0, 1), 1);
        y.row(1);
        Check.due("key q - 1", y.identity(0, Own.Q - 1), 1);
    }

    /** "NO: THE ROW is empty, has more than 4": BAD is ahead of that. */
    static void promise34_oneToFour() {
        for (int n = 0; n <= 6; n++) {
            SecureLines x = World.both();
            for (int i = 0; i < n; i++) {
                x.row(2);
            }
            boolean good = n >= 1 && n <= 4;
            Check.due("of " + n + ", BAD", x.identity(0, 0), -1);
            Check.due("of " + n, x.identity(0, World.CLIENT), good ? n : -2);
            Check.due("THE ROW then", x.step(-1), good ? 0 : n);
        }
    }

    /** "the KEY's POINT is another one than the first one's": of the first alone. */
    static void promise34_firstOnesPoint() {
        SecureLines x = World.both();
        x.row(2);
        x.row(1);
        Check.due("the second one's KEY", x.identity(0, World.SERVER), -2);
        Check.due("another KEY", x.identity(0, World.CLIENT + 1), -2);
        Check.due("THE ROW stays", x.step(-1) * 100 + x.step(0) * 10 + x.step(1), 221);
        Check.due("the first one's", x.identity(0, World.CLIENT), 2);
    }

    /** A refused one lets the IDENTITY stay; another one is in its place. */
    static void promise34_whatAnEndHas() {
        SecureLines x = World.both();
        Check.due("an empty ROW", x.identity(1, World.SERVER), -2);
        x.row(2);
        Check.due("another KEY", x.identity(1, World.SERVER), -2);
        Peer peer = Stage.served(x);
        Check.due("it is open", peer.told(0), 1);
        x.row(0);
        Check.due("three in all", x.identity(1, World.CLIENT), 2);
        Peer other = World.toServer(x);
        other.send(1, other.helloBody(5, Peer.usualFields(1, 9), Peer.none()));
        other.takeAnswer(9, 0);
        other.expect(8);
        Check.that("the other one is shown", Arrays.equals(other.expect(11), Peer.chain(new byte[0], World.client(), World.root())));
    }

    // ---- 35 host

    /** "BAD: no client": THE TAPE stays. */
    static void promise35_noClient() {
        SecureLines x = two();
        x.feed(1, 'a');
        Check.due("a server", x.host(1), -1);
        for (int e : NO_END) {
            Check.due("end " + e, x.host(e), -1);
        }
        x.feed(1, '!');
        Check.due("BAD ahead of NO", x.host(1), -1);
        Check.due("THE TAPE stays", x.cut(1), 1);
        Check.due("host", x.host(0), 1);
        Check.due("it took THE TAPE", x.cut(0), 0);
    }

    /** "NO: no NAME": of no bytes, of 41, with wrong signs; the HOST stays, and THE TAPE. */
    static void promise35_noName() {
        SecureLines x = two();
        Check.due("no bytes", x.host(0), -2);
        Check.that("no HOST", !World.toClient(x).helloFields.containsKey(6));
        Own.feed(x, Own.text(FORTY));
        Check.due("of 40", x.host(0), 1);
        String[] none = {"", ".", "a.", ".a", "a..b", "*.a.b", "A", "a b", "a,b", "a" + FORTY};
        for (String name : none) {
            Own.feed(x, Own.text(name));
            Check.due("NAME " + name, x.host(0), -2);
            Check.due("THE TAPE stays", x.cut(0), name.length());
        }
        Check.that("the HOST stays", Arrays.equals(World.toClient(x).helloFields.get(6), Own.text(FORTY)));
        Own.feed(x, Own.text("-"));
        Check.due("of 1", x.host(0), 1);
        Check.that("another HOST", Arrays.equals(World.toClient(x).helloFields.get(6), Own.text("-")));
    }

    // ---- 36 shared

    /** "BAD: end, h": THE TAPE stays. */
    static void promise36_endAndH() {
        SecureLines x = two();
        x.feed(2, 7);
        for (int e : NO_END) {
            Check.due("end " + e, x.shared(e, 0, 1), -1);
        }
        int[] bad = {-1, 2, Integer.MIN_VALUE, Integer.MAX_VALUE};
        for (int h : bad) {
            Check.due("h " + h, x.shared(0, h, 1), -1);
        }
        Check.due("THE TAPE stays", x.cut(2), 0);
        Check.due("h 1", x.shared(0, 1, Long.MIN_VALUE), 1);
        Check.due("of a server", x.shared(1, 1, 1), -2);
        Check.due("BAD ahead of NO", x.shared(0, 2, 1), -1);
    }

    /** "NO: not 1 .. 16 bytes". */
    static void promise36_1To16Bytes() {
        int[] lengths = {0, 1, 2, 15, 16, 17, 18, 800};
        for (int n : lengths) {
            SecureLines x = two();
            Own.feed(x, Own.rowOf(n, 200));
            boolean good = n >= 1 && n <= 16;
            Check.due("of " + n, x.shared(0, 0, 1), good ? 1 : -2);
            Check.due("THE TAPE then", x.cut(0), good ? 0 : n);
            Check.due("its id", x.ticket(0, 0, 0), good ? 0 : -1);
            Check.out("OUT", x, Own.rowOf(good ? n : 0, 200));
        }
    }

    /** "FULL: 6 (TICKETS, too)"; "NO" ahead of it. */
    static void promise36_six() {
        SecureLines x = World.both();
        for (int i = 1; i <= 6; i++) {
            x.feed(1, 7);
            Check.due("shared, perhaps one alike", x.shared(0, 0, 5), i);
        }
        x.feed(1, 7);
        Check.due("the seventh", x.shared(0, 0, 5), -3);
        Check.due("THE TAPE stays", x.cut(0), 1);
        Check.due("NO ahead of FULL", x.shared(0, 0, 5), -2);
        Check.due("BAD ahead of FULL", x.shared(0, 2, 5), -1);
        x.feed(1, 7);
        Check.due("another end has its own", x.shared(1, 0, 5), 1);
        x.forget(0, 5);
        x.feed(1, 7);
        Check.due("there is room again", x.shared(0, 0, 5), 6);
        // five and a TICKET
        Peer peer = Stage.ticketed(World.both(), 0);
        for (int i = 2; i <= 6; i++) {
            peer.x.feed(1, 7);
            Check.due("behind a TICKET", peer.x.shared(0, 0, 5), i);
        }
        peer.x.feed(1, 7);
        Check.due("six with a TICKET", peer.x.shared(0, 0, 5), -3);
    }

    /** "(one that comes when there are 6 is lost)": a TICKET; when there are 5 it is kept. */
    static void promise36_aTicketWhenThereAreSix() {
        for (int n = 4; n <= 6; n++) {
            SecureLines x = World.both();
            Peer peer = Stage.opened(x);
            for (int i = 0; i < n; i++) {
                x.feed(1, i);
                x.shared(0, 0, 5);
            }
            peer.send(4, Own.four(60), Own.four(0), Own.secret(8), Own.bytes(0));
            Check.due("no ALERT", peer.told(6), -4);
            Check.due("it is a message in which nothing was wrong", peer.told(13), 6);
            Check.due("the one behind " + n, x.ticket(0, n, 5), n < 6 ? 1 : -1);
            Check.due("the last of those ahead", x.ticket(0, n - 1, 5), 0);
        }
    }

    // ---- 37 forget

    /** "SHARED secret k of an end goes: how many are left. BAD." */
    static void promise37_firstAndLast() {
        SecureLines x = two();
        Check.due("none", x.forget(0, 0), -1);
        for (int i = 0; i < 6; i++) {
            x.feed(1, i);
            x.shared(0, 0, i);
        }
        for (int e : NO_END) {
            Check.due("end " + e, x.forget(e, 0), -1);
        }
        Check.due("another end's", x.forget(1, 0), -1);
        int[] bad = {-1, 6, Integer.MIN_VALUE, Integer.MAX_VALUE};
        for (int k : bad) {
            Check.due("k " + k, x.forget(0, k), -1);
        }
        dueIds(x, 0, 1, 2, 3, 4, 5);
        Check.due("the last", x.forget(0, 5), 5);
        dueIds(x, 0, 1, 2, 3, 4);
        Check.due("the last again", x.forget(0, 5), -1);
        Check.due("the first", x.forget(0, 0), 4);
        dueIds(x, 1, 2, 3, 4);
        Check.due("one between", x.forget(0, 1), 3);
        dueIds(x, 1, 3, 4);
        x.forget(0, 0);
        x.forget(0, 0);
        Check.due("the only one", x.forget(0, 0), 0);
        Check.due("none is left", x.forget(0, 0), -1);
    }

    private static void dueIds(SecureLines x, int... ids) {
        for (int k = 0; k < ids.length; k++) {
            Check.due("h", x.ticket(0, k, 0), 0);
            Check.out("id " + k, x, Own.bytes(ids[k]));
        }
        Check.due("no more", x.ticket(0, ids.length, 0), -1);
    }

    // ---- 38 ticket

    /** "BAD": end, k, what; OUT stays then. */
    static void promise38_refusals() {
        SecureLines x = two();
        Check.due("none", x.ticket(0, 0, 0), -1);
        x.feed(2, 0x0708);
        x.shared(0, 1, 5);
        Check.due("h", x.ticket(0, 0, 0), 1);
        for (int e : NO_END) {
            Check.due("end " + e, x.ticket(e, 0, 0), -1);
        }
        Check.due("another end's", x.ticket(1, 0, 0), -1);
        int[] bad = {-1, 1, 6, Integer.MIN_VALUE, Integer.MAX_VALUE};
        for (int k : bad) {
            Check.due("k " + k, x.ticket(0, k, 0), -1);
        }
        int[] whats = {-1, 6, Integer.MIN_VALUE, Integer.MAX_VALUE};
        for (int what : whats) {
            Check.due("what " + what, x.ticket(0, 0, what), -1);
        }
        Check.out("OUT stays", x, Own.bytes(7, 8));
    }

    /** "(1 to 4: 0 of one that did not come by TICKET), 5 1 if it did, else 0." */
    static void promise38_byTicketOrNot() {
        SecureLines x = World.both();
        x.tick(1000);
        x.feed(1, 9);
        x.shared(0, 1, 5);
        int[] without = {1, 0, 0, 0, 0, 0};
        Peer peer = Stage.ticketed(x, 400);
        int[] with = {0, 60, 400, 1, 1000, 1};
        x.tick(5);
        for (int what = 0; what <= 5; what++) {
            Check.due("without, " + what, x.ticket(0, 0, what), without[what]);
            Check.out("its id", x, Own.bytes(9));
            Check.due("by TICKET, " + what, x.ticket(0, 1, what), with[what]);
            Check.out("its id", x, Own.secret(0x6162636465666768L));
        }
        Check.due("nothing is wrong", peer.told(6), -4);
    }

    /** A TICKET's LIFE and EARLY are FOURs, with their signs. */
    static void promise38_fours() {
        int[] fours = {0, 1, -1, Integer.MIN_VALUE, Integer.MAX_VALUE};
        SecureLines x = World.both();
        Peer peer = Stage.opened(x);
        for (int i = 0; i < 5; i++) {
            peer.send(4, Own.four(fours[i]), Own.four(fours[4 - i]), Own.secret(i), Own.bytes(255));
            Check.due("LIFE", x.ticket(0, i, 1), fours[i]);
            Check.due("EARLY", x.ticket(0, i, 2), fours[4 - i]);
        }
    }

    // ---- 39 early

    /** "BAD: no client; NO: more than 400": THE TAPE stays. */
    static void promise39_refusals() {
        SecureLines x = two();
        Own.feed(x, Own.rowOf(401, 1));
        Check.due("a server", x.early(1), -1);
        for (int e : NO_END) {
            Check.due("end " + e, x.early(e), -1);
        }
        Check.due("401", x.early(0), -2);
        Check.due("THE TAPE stays", x.cut(400), 1);
        Check.due("400", x.early(0), 400);
        Check.due("it took THE TAPE", x.cut(0), 0);
        Check.due("0", x.early(0), 0);
    }

    /** "in place of others (0: none, as if none were given)"; a refused one lets them stay. */
    static void promise39_inPlaceOfOthers() {
        int[][] ways = {{3, 5, 5}, {5, 3, 3}, {3, 0, 0}, {0, 3, 3}, {400, 1, 1}, {1, 400, 400}, {3, 401, 3}};
        for (int[] way : ways) {
            SecureLines x = World.both();
            Stage.ticketed(x, 400);
            Own.feed(x, Own.rowOf(way[0], 1));
            x.early(0);
            Own.feed(x, Own.rowOf(way[1], 2));
            x.early(0);
            x.cut(0);
            int c = x.connection(0, -1);
            int records = (way[2] + 199) / 200;
            Check.due("records of early bytes", x.told(c, 0, 10), records);
            Check.due("a key for them", x.key(c, 0, 0) != 0 ? 1 : 0, way[2] > 0 ? 1 : 0);
        }
    }

    /** "are early bytes for a client's next CONNECTION": for that alone. */
    static void promise39_nextConnectionAlone() {
        SecureLines x = World.both();
        Stage.ticketed(x, 400);
        x.feed(3, 7);
        x.early(0);
        Check.due("refused", x.connection(0, 0), -1);
        x.connection(-1, 1);
        int c = x.connection(0, -1);
        Check.due("they go", x.told(c, 0, 10), 1);
        c = x.connection(0, -1);
        Check.due("they are gone", x.told(c, 0, 10), 0);
        Check.due("no key", x.key(c, 0, 0), 0);
    }

    /** "(Early bytes that do not go, or are not taken, are gone.)" */
    static void promise39_gone() {
        SecureLines x = World.both();
        x.feed(3, 7);
        x.early(0);
        Check.due("no TICKET: they do not go", x.told(x.connection(0, -1), 0, 10), 0);
        Stage.ticketed(x, 400);
        Check.due("with a TICKET: they are gone", x.told(x.connection(0, -1), 0, 10), 0);
        SecureLines y = World.both();
        Stage.ticketed(y, 2);
        y.feed(3, 7);
        y.early(0);
        Check.due("it does not allow as many", y.told(y.connection(0, -1), 0, 10), 0);
        y.forget(0, 0);
        Stage.ticketed(y, 3);
        Check.due("they are gone", y.told(y.connection(0, -1), 0, 10), 0);
        // put, but not taken
        SecureLines z = World.both();
        z.setting(1, 4, 400);
        Stage.open(z);
        z.setting(1, 4, 0);
        z.feed(3, 7);
        z.early(0);
        int c = Stage.open(z);
        Check.due("not taken", z.told(c, 1, 5), 0);
        Check.due("not heard", z.hear(c, 1), -10);
        z.setting(1, 4, 400);
        Check.due("they do not go again", z.told(z.connection(0, -1), 0, 10), 0);
    }
}
