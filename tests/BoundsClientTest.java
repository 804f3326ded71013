import java.util.Arrays;
import java.util.function.Consumer;

/** Promises 41 and 42 at their bounds: what comes to a client. */
public final class BoundsClientTest {
    private static final byte[] NONE = {};
    private static final String FORTY = "abcdefghijklmnopqrstuvwxyz0123456789-a.c";

    public static void main(String[] args) throws ReflectiveOperationException {
        Bounds.run(BoundsClientTest.class);
    }

    private static Peer fresh() {
        return World.toClient(World.both());
    }

    /** A message that is given: an ALERT, or none (0), and whether it counts. */
    private static void sent(String what, Peer peer, int due, int type, byte[]... body) {
        int messages = peer.told(13);
        peer.send(type, body);
        Stage.given(what, peer, due);
        Check.due(what + ": messages", peer.told(13), due == 0 ? messages + 1 : messages);
    }

    // ---- RECORDS and MESSAGES

    /** "10 a kind that is none; 22 more than 300 bytes": as soon as it has three bytes. */
    static void promise41_headsOfRecords() {
        for (int kind = 0; kind < 256; kind++) {
            boolean one = kind >= 21 && kind <= 23;
            Peer peer = fresh();
            Stage.given("kind " + kind + ", two bytes", peer, 0, Own.bytes(kind, 1));
            Stage.given("kind " + kind + " of 301", peer, one ? 22 : 10, Own.bytes(45));
            Stage.given("kind " + kind + " of 300", fresh(), one ? 0 : 10, Own.bytes(kind, 1, 44));
        }
    }

    /** "10 kind 23 without a key for reading .. 21, 22 with one; then 50 no bytes, or of 21 not one byte". */
    static void promise41_kindsByKey() {
        Stage.given("23 without a key", fresh(), 10, Own.bytes(23, 0, 20), new byte[20]);
        Stage.given("23 without a key, of none", fresh(), 10, Own.bytes(23, 0, 0));
        Stage.given("22 of none", fresh(), 50, Own.bytes(22, 0, 0));
        Stage.given("21 of none", fresh(), 50, Own.bytes(21, 0, 0));
        Stage.given("21 of two", fresh(), 50, Own.bytes(21, 0, 2, 0, 0));
        Stage.given("22 with a key", Stage.answered(World.both()), 10, Own.bytes(22, 0, 3, 8, 0, 0));
        Stage.given("21 with a key", Stage.answered(World.both()), 10, Own.bytes(21, 0, 1, 0));
        Stage.given("21 of none with a key", Stage.answered(World.both()), 10, Own.bytes(21, 0, 0));
        Stage.given("23 of none with a key", Stage.answered(World.both()), 50, Own.bytes(23, 0, 0));
        Stage.given("23 that does not open", Stage.answered(World.both()), 20, Own.bytes(23, 0, 9), new byte[9]);
        Stage.given("23 shorter than a TAG", Stage.answered(World.both()), 20, Own.bytes(23, 0, 1), new byte[1]);
    }

    /** A client drops nothing, though it put EARLY that is not taken. */
    static void promise41_aClientDropsNothing() {
        Peer peer = early(200);
        Stage.taken("without a key", peer, 10, Own.bytes(23, 0, 20), new byte[20]);
        Check.due("dropped", peer.told(14), 0);
        peer = early(200);
        peer.answer(1, 7, -1, 0);
        Stage.taken("with a key", peer, 20, Own.bytes(23, 0, 20), new byte[20]);
        Check.due("dropped", peer.told(14), 0);
    }

    /** "Said bytes: 10 while the side may not get such (a client ahead of the server's END ..)". */
    static void promise41_saidTooEarly() {
        for (int n = 0; n <= 1; n++) {
            Peer peer = Stage.answered(World.both());
            Stage.given(n + " behind ANSWER", peer, 10, peer.record(23, new byte[n]));
            peer = Stage.proven(World.both());
            Stage.given(n + " behind PROOF", peer, 10, peer.record(23, new byte[n]));
            peer = Stage.proven(World.both());
            peer.endAsServer();
            Stage.given(n + " behind END", peer, 0, peer.record(23, new byte[n]));
            Check.due("heard", peer.x.hear(peer.c, 0), n == 1 ? 0 : -10);
        }
    }

    /** "50 a BODY above 2500 bytes": a CHAIN may have as many. */
    static void promise41_aBodyOf2500() {
        for (int size = 2499; size <= 2502; size++) {
            Peer peer = Stage.begun(World.both());
            Stage.given("of " + size, peer, size > 2500 ? 50 : 0, peer.record(22, Own.cat(Own.bytes(11), Own.two(size))));
        }
        Peer peer = Stage.begun(World.both());
        byte[] body = Own.cat(Own.bytes(0, 0, 0), new byte[2497]);
        sent("a CHAIN of 2500", peer, 50, 11, body);
    }

    /** "Client: 2 or 6 (6 once) first; 8; without SHARED secret 13 at most once, 11, 15; 20; then 4, 24": any other is 10. */
    static void promise41_types() {
        for (int type = 0; type < 256; type++) {
            byte[] message = Own.bytes(type, 0, 0);
            type("first", fresh(), type, message, 2, 6);
            type("behind ANSWER", Stage.answered(World.both()), type, message, 8);
            type("behind SEALED BEGINNING", Stage.begun(World.both()), type, message, 11, 13);
            Peer peer = Stage.begun(World.both());
            peer.send(13, Peer.field(5, Own.bytes(1)));
            type("behind ASKING", peer, type, message, 11);
            type("behind CHAIN", Stage.shown(World.both()), type, message, 15);
            type("behind PROOF", Stage.proven(World.both()), type, message, 20);
            type("then", Stage.opened(World.both()), type, message, 4, 24);
            SecureLines x = World.both();
            World.share(x, 0, "ab", 0, 6);
            peer = World.toClient(x);
            peer.answer(1, 7, 0, 6);
            peer.send(8);
            type("with a SHARED secret", peer, type, message, 20);
            peer = fresh();
            peer.suite = 1;
            peer.shorten();
            peer.send(6, Own.bytes(1), Peer.field(3, Own.bytes(2)));
            peer.takeHello();
            type("behind RETRY", peer, type, message, 2);
        }
    }

    /** Types that may come answer something else than 10. */
    private static void type(String when, Peer peer, int type, byte[] message, int... may) {
        boolean good = Arrays.stream(may).anyMatch(one -> one == type);
        peer.give(peer.record(22, message));
        int alert = peer.told(6);
        Check.due(when + ", type " + type, alert == 10 ? 1 : 0, good ? 0 : 1);
    }

    /** "10 bytes behind it, if behind it the key for reading changes": ANSWER, the server's END, NEW KEYS, and not the others. */
    static void promise41_bytesBehind() {
        for (int more = 0; more <= 1; more++) {
            int due = more == 0 ? 0 : 10;
            byte[] rest = new byte[more];
            byte[] answer = Peer.message(2, new byte[8], Own.bytes(1), Peer.field(4, Own.bytes(1), Own.four(5)));
            behind("ANSWER", fresh(), due, answer, rest);
            behind("RETRY", fresh(), 0, Peer.message(6, Own.bytes(1), Peer.field(3, Own.bytes(2))), rest);
            behind("SEALED BEGINNING", Stage.answered(World.both()), 0, Peer.message(8), rest);
            behind("ASKING", Stage.begun(World.both()), 0, Peer.message(13, Peer.field(5, Own.bytes(1))), rest);
            behind("CHAIN", Stage.begun(World.both()), 0, Peer.message(11, Peer.chain(NONE, World.server())), rest);
            Peer peer = Stage.shown(World.both());
            behind("PROOF", peer, 0, Peer.message(15, peer.proof('S', 1, World.SERVER)), rest);
            peer = Stage.proven(World.both());
            behind("END", peer, due, Peer.message(20, Own.secret(peer.end(peer.serverKey))), rest);
            behind("TICKET", Stage.opened(World.both()), 0, Peer.message(4, new byte[17]), rest);
            behind("NEW KEYS", Stage.opened(World.both()), due, Peer.message(24, Own.bytes(0)), rest);
            behind("NEW KEYS that ask", Stage.opened(World.both()), due, Peer.message(24, Own.bytes(1)), rest);
        }
        // what is wrong in it is told ahead of that
        byte[] rest = new byte[1];
        byte[] wrong = Peer.message(2, new byte[8], Own.bytes(9));
        Peer peer = fresh();
        Stage.given("47 ahead of 10", peer, 47, peer.record(22, Own.cat(wrong, rest)));
        peer = Stage.opened(World.both());
        Stage.given("47 ahead of 10", peer, 47, peer.record(22, Own.cat(Peer.message(24, Own.bytes(2)), rest)));
        peer = Stage.proven(World.both());
        Stage.given("51 ahead of 10", peer, 51, peer.record(22, Own.cat(Peer.message(20, new byte[8]), rest)));
    }

    private static void behind(String what, Peer peer, int due, byte[] message, byte[] rest) {
        int messages = peer.told(13);
        long digest = peer.key(7);
        Stage.taken("behind " + what, peer, due, peer.record(22, Own.cat(message, rest)));
        Check.due(what + " counts", peer.told(13), due == 0 ? messages + 1 : messages);
        if (due != 0) {
            Check.due("nothing was done by " + what, peer.key(7), digest);
        }
    }

    // ---- ANSWER

    private static void answer(String what, int due, Consumer<SecureLines> setUp, int suite, byte[]... fields) {
        SecureLines x = World.both();
        setUp.accept(x);
        Peer peer = World.toClient(x);
        sent(what, peer, due, 2, new byte[8], Own.bytes(suite), Own.cat(fields));
        Check.due(what + ": SUITE", peer.told(1), due == 0 ? suite : 0);
    }

    private static final byte[] SHARE = Peer.field(4, Own.bytes(1), Own.four(5));

    private static void nothing(SecureLines x) {
    }

    private static void twoSecrets(SecureLines x) {
        World.share(x, 0, "ab", 0, 6);
        World.share(x, 0, "cd", 1, 6);
    }

    private static void twoSecretsWithout(SecureLines x) {
        twoSecrets(x);
        x.setting(0, 6, 1);
    }

    /** "2 ANSWER: RANDOM, 8 bytes; a SUITE; FIELDS 4 SHARE, 10 CHOSEN (a byte)". */
    static void promise41_formOfAnswer() {
        for (int n = 0; n <= 9; n++) {
            sent("of " + n, fresh(), n == 9 ? 47 : 50, 2, new byte[n]);
        }
        for (int n = 4; n <= 6; n++) {
            answer("SHARE of " + n, n == 5 ? 47 : 50, BoundsClientTest::nothing, 1, Peer.field(4, new byte[n]));
        }
        for (int n = 0; n <= 2; n++) {
            answer("CHOSEN of " + n, n == 1 ? 0 : 50, BoundsClientTest::twoSecrets, 1, SHARE, Peer.field(10, new byte[n]));
        }
        answer("a FIELD beyond", 50, BoundsClientTest::nothing, 1, SHARE, Own.bytes(10, 0, 1));
        answer("a kind alone", 50, BoundsClientTest::nothing, 1, SHARE, Own.bytes(10));
        answer("falling", 47, BoundsClientTest::twoSecrets, 1, Peer.field(10, new byte[1]), SHARE);
        answer("alike", 47, BoundsClientTest::nothing, 1, SHARE, SHARE);
        answer("behind CHOSEN", 110, BoundsClientTest::twoSecrets, 1, SHARE, Peer.field(10, new byte[1]), Peer.field(11));
    }

    /** "110 other FIELDS": each kind but 4 and 10. */
    static void promise41_otherFieldsOfAnswer() {
        for (int kind = 0; kind < 256; kind++) {
            byte[] other = Peer.field(kind, kind == 4 ? Own.cat(Own.bytes(1), Own.four(5)) : kind == 10 ? new byte[1] : NONE);
            int due = kind == 4 || kind == 10 ? 0 : 110;
            byte[][] rows = kind < 4 ? new byte[][] {other, SHARE} : kind == 4 ? new byte[][] {other} : new byte[][] {SHARE, other};
            answer("kind " + kind, due, BoundsClientTest::twoSecrets, 1, rows);
        }
        answer("110 ahead of 47", 110, BoundsClientTest::nothing, 9, Peer.field(3));
    }

    /** "47 a SUITE that it does not OFFER", by then. */
    static void promise41_suiteOfAnswer() {
        for (int suite = 0; suite < 256; suite++) {
            answer("SUITE " + suite, suite >= 1 && suite <= 3 ? 0 : 47, BoundsClientTest::nothing, suite, SHARE);
        }
        for (int offered = 1; offered <= 3; offered++) {
            for (int suite = 1; suite <= 3; suite++) {
                SecureLines x = World.both();
                Peer peer = World.toClient(x);
                x.offer(0, 0, offered);
                sent("SUITE " + suite + " of " + offered, peer, suite == offered ? 0 : 47, 2, new byte[8], Own.bytes(suite), SHARE);
            }
        }
    }

    /** "47 CHOSEN not among those of SHARED that were put, or one whose h is another one". */
    static void promise41_chosen() {
        for (int chosen = 0; chosen < 256; chosen++) {
            byte[] field = Peer.field(10, Own.bytes(chosen));
            answer("CHOSEN " + chosen + ", SUITE 1", chosen == 0 ? 0 : 47, BoundsClientTest::twoSecrets, 1, SHARE, field);
            answer("CHOSEN " + chosen + ", SUITE 3", chosen == 1 ? 0 : 47, BoundsClientTest::twoSecrets, 3, SHARE, field);
            answer("CHOSEN " + chosen + ", none were put", 47, BoundsClientTest::nothing, 1, SHARE, field);
        }
        // what HELLO bore counts, not what the end has by then
        SecureLines x = World.both();
        twoSecrets(x);
        Peer peer = World.toClient(x);
        x.forget(0, 0);
        x.forget(0, 0);
        peer.answer(3, 7, 1, 6);
        Check.due("used", peer.told(4), 1);
        SecureLines y = World.both();
        peer = World.toClient(y);
        twoSecrets(y);
        sent("one that came later", peer, 47, 2, new byte[8], Own.bytes(1), SHARE, Peer.field(10, new byte[1]));
    }

    /** "109 no SHARE and no CHOSEN; 47 no SHARE, and MODES had no 1". */
    static void promise41_noShare() {
        byte[] chosen = Peer.field(10, Own.bytes(0));
        answer("no CHOSEN, no MODES", 109, BoundsClientTest::nothing, 1);
        answer("no CHOSEN, MODES 2", 109, BoundsClientTest::twoSecrets, 1);
        answer("no CHOSEN, MODES 3", 109, BoundsClientTest::twoSecretsWithout, 1);
        answer("CHOSEN, MODES 2", 47, BoundsClientTest::twoSecrets, 1, chosen);
        answer("CHOSEN, MODES 3", 0, BoundsClientTest::twoSecretsWithout, 1, chosen);
        answer("another h ahead of that", 47, BoundsClientTest::twoSecretsWithout, 1, Peer.field(10, Own.bytes(1)));
        answer("47 SUITE ahead of 109", 47, BoundsClientTest::nothing, 4);
        // MODES that HELLO had count, not the SETTING by then
        SecureLines x = World.both();
        twoSecretsWithout(x);
        Peer peer = World.toClient(x);
        x.setting(0, 6, 0);
        sent("SETTING 6 is 0 by then", peer, 0, 2, new byte[8], Own.bytes(1), chosen);
        SecureLines y = World.both();
        twoSecrets(y);
        peer = World.toClient(y);
        y.setting(0, 6, 1);
        sent("SETTING 6 is 1 by then", peer, 47, 2, new byte[8], Own.bytes(1), chosen);
    }

    /** "47 SHARE without one put, of another GROUP, or JOINT 0". */
    static void promise41_shareOfAnswer() {
        for (int group = 1; group <= 3; group++) {
            int p = Own.GROUP_PRIMES[group];
            int[] points = {0, 1, 2, p - 2, p - 1, p, -1, Integer.MIN_VALUE};
            int one = group;
            for (int point : points) {
                boolean good = point >= 2 && point <= p - 2;
                answer("GROUP " + group + ", point " + point, good ? 0 : 47, x -> x.offer(0, 1, one), 1,
                    Peer.field(4, Own.bytes(group), Own.four(point)));
            }
            for (int other = 0; other <= 4; other++) {
                answer("GROUP " + other + " for " + group, other == group ? 0 : 47, x -> x.offer(0, 1, one == 1 ? 0x0102 : one), 1,
                    Peer.field(4, Own.bytes(other), Own.four(5)));
            }
        }
        answer("without one put", 47, x -> x.setting(0, 5, 0), 1, SHARE);
    }

    // ---- RETRY

    private static void retry(String what, int due, Consumer<SecureLines> setUp, byte[]... body) {
        SecureLines x = World.both();
        setUp.accept(x);
        Peer peer = World.toClient(x);
        sent(what, peer, due, 6, body);
        Check.due(what + ": a HELLO is put", peer.x.line(peer.c, 0, 3), due == 0 ? 1 : -1);
    }

    private static final byte[] GROUP = Peer.field(3, Own.bytes(2));

    /** "6 RETRY: a SUITE; FIELDS 3 GROUP (a byte), 9 COOKIE". */
    static void promise41_formOfRetry() {
        retry("no bytes", 50, BoundsClientTest::nothing);
        for (int n = 0; n <= 2; n++) {
            retry("GROUP of " + n, n == 1 ? 0 : 50, BoundsClientTest::nothing, Own.bytes(1), Peer.field(3, Own.rowOf(n, 2)));
            retry("COOKIE of " + (7 + n), n == 1 ? 0 : 50, BoundsClientTest::nothing, Own.bytes(1), GROUP, Peer.field(9, new byte[7 + n]));
        }
        retry("a FIELD beyond", 50, BoundsClientTest::nothing, Own.bytes(1, 3, 0, 2, 2));
        retry("falling", 47, BoundsClientTest::nothing, Own.bytes(1), Peer.field(9, new byte[8]), GROUP);
        for (int kind = 0; kind < 256; kind++) {
            if (kind != 3 && kind != 9) {
                byte[] other = Peer.field(kind);
                retry("kind " + kind, 110, BoundsClientTest::nothing, Own.bytes(9), kind < 3 ? Own.cat(other, GROUP) : Own.cat(GROUP, other));
            }
        }
    }

    /** "47 a SUITE that it does not OFFER; 47 no GROUP, one that it does not, or that of the SHARE put". */
    static void promise41_suiteAndGroupOfRetry() {
        for (int one = 0; one < 256; one++) {
            retry("SUITE " + one, one >= 1 && one <= 3 ? 0 : 47, BoundsClientTest::nothing, Own.bytes(one), GROUP);
            retry("GROUP " + one, one == 2 || one == 3 ? 0 : 47, BoundsClientTest::nothing, Own.bytes(1), Peer.field(3, Own.bytes(one)));
            retry("GROUP " + one + ", no SHARE was put", one >= 1 && one <= 3 ? 0 : 47, x -> x.setting(0, 5, 0), Own.bytes(1),
                Peer.field(3, Own.bytes(one)));
        }
        retry("no GROUP", 47, BoundsClientTest::nothing, Own.bytes(1));
        retry("no GROUP, COOKIE", 47, BoundsClientTest::nothing, Own.bytes(1), Peer.field(9, new byte[8]));
        retry("not OFFERED", 47, x -> x.offer(0, 1, 0x0103), Own.bytes(1), GROUP);
        retry("the SUITE is not OFFERED", 47, x -> x.offer(0, 0, 0x0103), Own.bytes(2), GROUP);
    }

    /** "(behind RETRY also: another one than told)"; "6 once". */
    static void promise41_behindRetry() {
        for (int suite = 1; suite <= 3; suite++) {
            Peer peer = fresh();
            peer.suite = 2;
            peer.shorten();
            peer.send(6, Own.bytes(2), GROUP);
            peer.takeHello();
            sent("SUITE " + suite + " behind 2", peer, suite == 2 ? 0 : 47, 2, new byte[8], Own.bytes(suite),
                Peer.field(4, Own.bytes(2), Own.four(5)));
        }
        for (int group = 1; group <= 3; group++) {
            Peer peer = fresh();
            peer.suite = 2;
            peer.shorten();
            peer.send(6, Own.bytes(2), GROUP);
            peer.takeHello();
            Check.due("SHARE of the GROUP told", peer.helloFields.get(4)[0], 2);
            sent("SHARE " + group + " behind 2", peer, group == 2 ? 0 : 47, 2, new byte[8], Own.bytes(2),
                Peer.field(4, Own.bytes(group), Own.four(5)));
        }
        Peer peer = fresh();
        peer.suite = 2;
        peer.shorten();
        peer.send(6, Own.bytes(2), GROUP);
        peer.takeHello();
        sent("another RETRY", peer, 10, 6, Own.bytes(2), Peer.field(3, Own.bytes(3)));
    }

    /** "SHARE of the GROUP told (.., whatever SETTING 5 is), COOKIE as told, if it was, no EARLY, SHARED only those of the SUITE's h". */
    static void promise41_helloBehindRetry() {
        for (int cookie = 0; cookie <= 1; cookie++) {
            for (int suite = 1; suite <= 3; suite++) {
                SecureLines x = World.both();
                World.share(x, 0, "ab", 0, 6);
                x.setting(0, 5, 0);
                World.random(x, 0, 7, 0x0000001100000012L);
                Peer peer = World.toClient(x);
                peer.suite = suite;
                peer.shorten();
                peer.send(6, Own.bytes(suite), GROUP, cookie == 1 ? Peer.field(9, Own.secret(-1)) : NONE);
                peer.takeHello();
                Check.due("RANDOM", Own.secretOf(peer.hello, 0), 7);
                Check.that("SHARE", Arrays.equals(peer.helloFields.get(4), Own.cat(Own.bytes(2), Own.four(Own.point(2, 2 + 0x11)))));
                Check.due("COOKIE", peer.helloFields.containsKey(9) ? Own.secretOf(peer.helloFields.get(9), 0) : 0, -cookie);
                Check.due("MODES", peer.helloFields.get(7)[0], 2);
                Check.due("SHARED", peer.helloFields.containsKey(10) ? 1 : 0, suite == 3 ? 0 : 1);
                Check.due("the number of x alone was drawn", x.random(0), 4);
            }
        }
    }

    // ---- SEALED BEGINNING, ASKING

    /** "8 SEALED BEGINNING: FIELDS 8 EARLY"; "110 other FIELDS; 110 EARLY, not put". */
    static void promise41_beginning() {
        sent("nothing", Stage.answered(World.both()), 0, 8);
        sent("EARLY, not put", Stage.answered(World.both()), 110, 8, Peer.field(8));
        sent("EARLY with a byte", Stage.answered(World.both()), 50, 8, Peer.field(8, new byte[1]));
        sent("a kind alone", Stage.answered(World.both()), 50, 8, Own.bytes(8));
        sent("EARLY twice", Stage.answered(World.both()), 47, 8, Peer.field(8), Peer.field(8));
        for (int kind = 0; kind < 256; kind++) {
            if (kind != 8) {
                sent("kind " + kind, Stage.answered(World.both()), 110, 8, Peer.field(kind));
            }
        }
    }

    /** "47 EARLY, CHOSEN is not 0": 0, 1, none; also that it is not taken. */
    static void promise41_earlyByChosen() {
        for (int chosen = -1; chosen <= 1; chosen++) {
            for (int taken = 0; taken <= 1; taken++) {
                Peer peer = early(200);
                peer.answer(1, 6, chosen, chosen == 0 ? ticketSecret : chosen == 1 ? 4 : 0);
                peer.send(8, taken == 1 ? Peer.field(8) : NONE);
                int due = taken == 1 && chosen != 0 ? 47 : 0;
                Check.due("CHOSEN " + chosen + ", EARLY " + taken, peer.told(6), due == 0 ? -4 : due);
                Check.due("taken", peer.told(5), due == 0 ? taken : 0);
            }
        }
    }

    private static long ticketSecret;

    /** A client that has a TICKET and behind it another SHARED secret, and put so many early bytes; they wait behind HELLO. */
    private static Peer early(int count) {
        Peer first = Stage.ticketed(World.both(), 400);
        ticketSecret = Own.derived(0, first.next, 't', 0);
        World.share(first.x, 0, "cd", 0, 4);
        World.tape(first.x, count);
        first.x.early(0);
        Peer peer = World.toClient(first.x);
        Check.that("EARLY", peer.helloFields.containsKey(8));
        peer.suite = 1;
        return peer;
    }

    /** "13 ASKING: FIELDS 5 SCHEMES"; "110 other FIELDS; 109 no SCHEMES". */
    static void promise41_asking() {
        sent("nothing", Stage.begun(World.both()), 109, 13);
        sent("SCHEMES of none", Stage.begun(World.both()), 50, 13, Peer.field(5));
        sent("of one", Stage.begun(World.both()), 0, 13, Peer.field(5, Own.bytes(9)));
        sent("of 255", Stage.begun(World.both()), 0, 13, Peer.field(5, Own.rowOf(255, 0)));
        sent("twice", Stage.begun(World.both()), 47, 13, Peer.field(5, Own.bytes(1)), Peer.field(5, Own.bytes(1)));
        for (int kind = 0; kind < 256; kind++) {
            if (kind != 5) {
                byte[] one = Peer.field(5, Own.bytes(1));
                sent("kind " + kind, Stage.begun(World.both()), 110, 13, kind < 5 ? Own.cat(Peer.field(kind), one) : Own.cat(one, Peer.field(kind)));
                sent("kind " + kind + " alone", Stage.begun(World.both()), 110, 13, Peer.field(kind));
            }
        }
    }

    /** "its CHAIN (of its IDENTITY; n = 0 without, or without a SCHEME that was told) and, with one, PROOF by the first of its SCHEMES". */
    static void promise41_whatAClientShows() {
        int[][] ways = {{0, 1, 0, 1}, {1, 1, 1, 1}, {1, 2, 1, 2}, {1, 9, 0, 0}, {1, 3, 0, 0}, {1, 0, 0, 0}};
        for (int[] way : ways) {
            SecureLines x = World.both();
            if (way[0] == 1) {
                World.clientIdentity(x);
            }
            Peer peer = Stage.begun(x);
            peer.send(13, Peer.field(5, Own.bytes(way[1])));
            peer.send(11, Peer.chain(NONE, World.server()));
            peer.send(15, peer.proof('S', 1, World.SERVER));
            peer.endAsServer();
            byte[] chain = peer.expect(11);
            Check.due("n", chain[0], way[2]);
            if (way[2] == 1) {
                byte[] due = peer.proof('C', way[3], World.CLIENT);
                Check.that("PROOF", Arrays.equals(peer.expect(15), due));
            } else {
                Check.due("an empty CHAIN", chain.length, 3);
            }
            peer.takeClientEnd();
            Check.due("open", peer.told(0), 1);
        }
    }

    // ---- CHAIN

    private static Peer chain(String what, int due, Consumer<SecureLines> setUp, byte[] staple, byte[]... certificates) {
        SecureLines x = World.both();
        setUp.accept(x);
        Peer peer = Stage.begun(x);
        sent(what, peer, due, 11, Peer.chain(staple, certificates));
        Check.due(what + ": shown", peer.told(12), due == 0 ? certificates.length : 0);
        return peer;
    }

    /** "of a server 50 n = 0"; "n, 0 .. 4". */
    static void promise41_chainOfAServer() {
        byte[] one = World.server();
        chain("n 0", 50, BoundsClientTest::nothing, NONE);
        chain("n 1", 0, BoundsClientTest::nothing, NONE, one);
        byte[][] line = new byte[4][];
        for (int i = 0; i < 4; i++) {
            String issuer = i == 3 ? "root" : "n" + (i + 1);
            line[i] = new Cert("n" + i, issuer, 50 + i).serial(9 + i).office().by(i == 3 ? World.ROOT : 51 + i);
        }
        for (int n = 1; n <= 4; n++) {
            byte[][] row = Arrays.copyOfRange(line, 4 - n, 4);
            chain("a PATH of " + n + " and the ANCHOR", 0, BoundsClientTest::nothing, NONE, row);
            if (n < 4) {
                byte[][] more = Arrays.copyOf(row, n + 1);
                more[n] = World.root();
                chain("a PATH of " + n + " with the ANCHOR", 0, BoundsClientTest::nothing, NONE, more);
            }
        }
        chain("n 5", 50, BoundsClientTest::nothing, NONE, line[0], line[1], line[2], line[3], World.root());
        sent("a byte more", Stage.begun(World.both()), 50, 11, Peer.chain(NONE, one), new byte[1]);
        byte[] body = Peer.chain(NONE, one);
        sent("a byte lacks", Stage.begun(World.both()), 50, 11, Own.part(body, 0, body.length - 1));
        sent("nothing", Stage.begun(World.both()), 50, 11);
    }

    /** "42 one is no CERTIFICATE"; "113 a STAPLE that is no ANSWER": of one byte, of a byte more, a LIST; in this order. */
    static void promise41_noCertificateNoAnswer() {
        byte[] one = World.server();
        byte[] staple = Cert.answer("root", 2, 0, 0, 9, 1, World.ROOT);
        chain("no bytes", 42, BoundsClientTest::nothing, NONE, NONE);
        chain("a byte more", 42, BoundsClientTest::nothing, NONE, Own.cat(one, new byte[1]));
        chain("an ANSWER in its place", 42, BoundsClientTest::nothing, NONE, staple);
        chain("the last is none", 42, BoundsClientTest::nothing, NONE, one, World.root(), NONE);
        chain("42 ahead of 113", 42, BoundsClientTest::nothing, Own.bytes(1), NONE);
        chain("a STAPLE", 0, BoundsClientTest::nothing, staple, one);
        chain("of one byte", 113, BoundsClientTest::nothing, Own.bytes(48), one);
        chain("a byte lacks", 113, BoundsClientTest::nothing, Own.part(staple, 0, staple.length - 1), one);
        chain("a byte more", 113, BoundsClientTest::nothing, Own.cat(staple, new byte[1]), one);
        chain("a LIST", 113, BoundsClientTest::nothing, Cert.list("root", 1, 0, 9, 1, World.ROOT), one);
        chain("a CERTIFICATE", 113, BoundsClientTest::nothing, one, one);
        chain("state 2", 113, BoundsClientTest::nothing, Cert.answer("root", 2, 2, 0, 9, 1, World.ROOT), one);
        chain("113 ahead of 48", 113, BoundsClientTest::nothing, Own.bytes(48), new Cert("srv", "other", 21).by(1));
    }

    /** "48 there is none such; 42 one's ISSUER is not the next one's SUBJECT, or two are one". */
    static void promise41_mustBeAPath() {
        byte[] one = World.server();
        chain("48", 48, BoundsClientTest::nothing, NONE, new Cert("srv", "other", 21).by(1));
        chain("48 ahead of 42", 48, BoundsClientTest::nothing, NONE, one, one, new Cert("srv", "other", 21).by(1));
        chain("42 the next one's SUBJECT", 42, BoundsClientTest::nothing, NONE, one, one);
        chain("42 the ANCHOR twice", 42, BoundsClientTest::nothing, NONE, World.root(), World.root());
        chain("42 one that is no root between", 42, BoundsClientTest::nothing, NONE, one, World.client(), World.root());
        byte[] self = new Cert("root", "root", 40).serial(9).office().by(World.ROOT);
        chain("two of one name", 0, BoundsClientTest::nothing, NONE, self);
        chain("42 two are one", 42, BoundsClientTest::nothing, NONE, self, self);
        chain("42 the ANCHOR is put behind, and is there", 42, BoundsClientTest::nothing, NONE, World.root(), self);
    }

    /** "48 there is none such": one that is held, but no ANCHOR, or an ANCHOR of another name or of another end. */
    static void promise41_heldButNoAnchor() {
        for (int way = 0; way < 4; way++) {
            SecureLines x = new SecureLines();
            x.end(0);
            x.end(0);
            Own.hold(x, World.root());
            Own.hold(x, new Cert("roo", "roo", 60).office().by(60));
            x.trust(1, 0);
            if (way == 1 || way == 3) {
                x.trust(0, 1);
            }
            if (way >= 2) {
                x.trust(0, 0);
            }
            Peer peer = World.toClient(x);
            peer.answer(1, 7, -1, 0);
            peer.send(8);
            sent("ANCHORS " + way, peer, way >= 2 ? 0 : 48, 11, Peer.chain(NONE, World.server()));
        }
    }

    /** "the ANCHOR that was told first of those whose SUBJECT is its ISSUER". */
    static void promise41_theAnchorToldFirst() {
        byte[] other = new Cert("root", "root", 60).serial(9).office().by(60);
        for (int order = 0; order <= 1; order++) {
            SecureLines x = new SecureLines();
            x.end(0);
            Own.hold(x, order == 0 ? World.root() : other);
            Own.hold(x, order == 0 ? other : World.root());
            x.trust(0, 0);
            x.trust(0, 1);
            Peer peer = World.toClient(x);
            peer.answer(1, 7, -1, 0);
            peer.send(8);
            sent("told " + order, peer, order == 0 ? 0 : 42, 11, Peer.chain(NONE, World.server()));
        }
    }

    /** "by the first WHY at TIME": 45 for 2, 3 at FROM, at TO, and one minute off. */
    static void promise41_timesOfAChain() {
        int[][] due = {{9, 45}, {10, 0}, {20, 0}, {21, 45}};
        for (int[] one : due) {
            chain("at " + one[0], one[1], x -> x.tick(one[0]), NONE, new Cert("srv", "root", 21).times(10, 20).by(World.ROOT));
        }
    }

    /** "42 for 1, 45 for 2, 3, 46 for 4 to 7, 44 for 8, 113 for 9". */
    static void promise41_alertsOfWhys() {
        Cert mid = new Cert("mid", "root", 22).serial(7).office();
        Cert leaf = new Cert("srv", "mid", World.SERVER).serial(8).names("a.b");
        chain("0", 0, BoundsClientTest::nothing, NONE, leaf.by(22), mid.by(World.ROOT));
        chain("1", 42, BoundsClientTest::nothing, NONE, leaf.by(23), mid.by(World.ROOT));
        chain("101", 42, BoundsClientTest::nothing, NONE, leaf.by(22), mid.by(22));
        chain("104", 46, BoundsClientTest::nothing, NONE, leaf.by(22), new Cert("mid", "root", 22).by(World.ROOT));
        chain("5", 46, BoundsClientTest::nothing, NONE, new Cert("srv", "root", 21).uses(14).by(World.ROOT));
        chain("105", 46, BoundsClientTest::nothing, NONE, leaf.by(22), new Cert("mid", "root", 22).office().uses(11).by(World.ROOT));
        chain("206", 46, BoundsClientTest::nothing, NONE, new Cert("e", "low", 21).by(24), new Cert("low", "mid", 24).office().by(22),
            new Cert("mid", "root", 22).office().depth(0).by(World.ROOT));
        chain("107", 46, BoundsClientTest::nothing, NONE, leaf.by(22), new Cert("mid", "root", 22).office().permitted("c").by(World.ROOT));
        chain("8", 44, x -> {
            Own.feed(x, Cert.list("root", 1, 0, 9, 1, World.ROOT, 2));
            x.list();
        }, NONE, World.server());
        chain("9, STRICT", 113, x -> x.setting(0, 0, 1), NONE, World.server());
        chain("9, not STRICT", 0, BoundsClientTest::nothing, NONE, World.server());
        chain("the first step's: 113 ahead of 42", 113, x -> x.setting(0, 0, 1), NONE, leaf.by(22), mid.by(22));
    }

    /** "a STAPLE counting as held last": at its FROM and TO; of another SERIAL, ISSUER, KEY it is none. */
    static void promise41_staple() {
        int[][] times = {{0, 0, 0}, {0, 5, 0}, {1, 5, 113}};
        for (int[] one : times) {
            chain("from " + one[0] + " to " + one[1], one[2], x -> x.setting(0, 0, 1),
                Cert.answer("root", 2, 0, one[0], one[1], 1, World.ROOT), World.server());
        }
        chain("at its TO", 0, x -> {
            x.setting(0, 0, 1);
            x.tick(5);
        }, Cert.answer("root", 2, 0, 0, 5, 1, World.ROOT), World.server());
        chain("behind its TO", 113, x -> {
            x.setting(0, 0, 1);
            x.tick(6);
        }, Cert.answer("root", 2, 0, 0, 5, 1, World.ROOT), World.server());
        for (int held = 0; held <= 12; held += 12) {
            int n = held;
            chain(held + " are held, a STAPLE tells", 44, x -> {
                for (int i = 0; i < n; i++) {
                    Own.feed(x, Cert.answer("root", 2, 0, 0, 9, 1, World.ROOT));
                    x.answer();
                }
            }, Cert.answer("root", 2, 1, 0, 9, 1, World.ROOT), World.server());
        }
        chain("another SERIAL", 0, BoundsClientTest::nothing, Cert.answer("root", 3, 1, 0, 9, 1, World.ROOT), World.server());
        chain("another KEY", 0, BoundsClientTest::nothing, Cert.answer("root", 2, 1, 0, 9, 1, 5), World.server());
        chain("another ISSUER", 0, BoundsClientTest::nothing, Cert.answer("roo", 2, 1, 0, 9, 1, World.ROOT), World.server());
        // what came is not held
        Peer peer = chain("it came", 44, BoundsClientTest::nothing, Cert.answer("root", 2, 1, 0, 9, 1, World.ROOT), World.server());
        Check.due("the STAPLE is not held", peer.x.status(1, 0, 5), 2);
        Check.due("no CERTIFICATE more is held", peer.x.field(3, 0), -1);
    }

    /** An ANSWER and a LIST that are held FIT one that is shown, and no other one by that: neither ahead nor behind. */
    static void promise28_byOneThatIsShown() {
        for (int way = 0; way < 4; way++) {
            SecureLines x = World.both();
            byte[] mid = new Cert("mid", "root", 22).serial(7).office().by(World.ROOT);
            byte[] leaf = new Cert("srv", "mid", World.SERVER).serial(8).by(22);
            Check.due("held", Own.hold(x, leaf), 3);
            Own.feed(x, (way & 1) == 0 ? Cert.answer("mid", 8, 1, 0, 9, 1, 22) : Cert.list("mid", 1, 0, 9, 1, 22, 8));
            Check.due("held", (way & 1) == 0 ? x.answer() : x.list(), 0);
            for (int i = 0; i < 4 && way >= 2; i++) {
                Check.due("by none that is held, ahead", x.status(3, i, 5), 2);
            }
            sent("REVOKED by one that is shown", Stage.begun(x), 44, 11, Peer.chain(NONE, leaf, mid));
            for (int i = 0; i < 4; i++) {
                Check.due("by none that is held", x.status(3, i, 5), 2);
            }
            byte[] other = new Cert("mid", "root", 23).serial(9).office().by(World.ROOT);
            sent("another one that is shown", Stage.begun(x), 42, 11, Peer.chain(NONE, leaf, other));
            sent("the one again", Stage.begun(x), 44, 11, Peer.chain(NONE, leaf, mid));
        }
    }

    /** "It MEETS a PATTERN, when it is it; or the PATTERN is *. and what is behind the NAME's first LABEL and its point". */
    static void promise41_host() {
        String[][] good = {{"a.b", "a.b"}, {"a", "a"}, {"x.a.b", "*.a.b"}, {"-.a.b", "*.a.b"}, {"x.y.a.b", "*.y.a.b"}, {FORTY, FORTY}};
        String[][] none = {{"a.b", "*.a.b"}, {"y.x.a.b", "*.a.b"}, {"x.a.b", "a.b"}, {"a.b", "x.a.b"}, {"xa.b", "*.a.b"}, {"a", "*.a.b"},
            {"b", "a.b"}, {"a.b.c", "a.b"}, {"x.a.bb", "*.a.b"}};
        for (String[] pair : good) {
            chain(pair[0] + " meets " + pair[1], 0, x -> host(x, pair[0]), NONE, named(pair[1]));
            chain(pair[0] + " meets the fourth", 0, x -> host(x, pair[0]), NONE, named("q", "*.q.q", "r", pair[1]));
        }
        for (String[] pair : none) {
            chain(pair[0] + " does not meet " + pair[1], 42, x -> host(x, pair[0]), NONE, named(pair[1]));
        }
        for (int n = 1; n <= 4; n++) {
            String[] names = Arrays.copyOf(new String[] {"q", "*.q.q", "r", "s"}, n);
            byte[] row = new Cert("srv", "root", 21).names(names).permitted("a.b").excluded("a.b").by(World.ROOT);
            chain("PERMITTED and EXCLUDED are no NAMES, " + n, 42, x -> host(x, "a.b"), NONE, row);
        }
        chain("no NAMES", 42, x -> host(x, "srv"), NONE, new Cert("srv", "root", 21).by(World.ROOT));
        chain("no HOST", 0, BoundsClientTest::nothing, NONE, named("q"));
        chain("of c0 alone", 42, x -> host(x, "a.b"), NONE, new Cert("srv", "mid", 21).names("q").by(22),
            new Cert("mid", "root", 22).office().names("a.b").by(World.ROOT));
        chain("the PATH's WHY ahead of HOST", 45, x -> {
            host(x, "a.b");
            x.tick(21);
        }, NONE, new Cert("srv", "root", 21).names("q").times(10, 20).by(World.ROOT));
    }

    private static void host(SecureLines x, String name) {
        Own.feed(x, Own.text(name));
        x.host(0);
    }

    private static byte[] named(String... names) {
        return new Cert("srv", "root", 21).names(names).by(World.ROOT);
    }

    // ---- PROOF, END, TICKET, NEW KEYS

    /** "15 PROOF": its form, its SCHEME, each bit. */
    static void promise41_proof() {
        for (int n = 0; n <= 11; n++) {
            Peer peer = Stage.shown(World.both());
            byte[] row = Own.cat(peer.proof('S', 2, World.SERVER), new byte[2]);
            sent("of " + n, peer, n == 9 ? 0 : 50, 15, Own.part(row, 0, n));
            Check.due("SCHEME", peer.told(3), n == 9 ? 2 : 0);
        }
        int[] schemes = {0, 3, 255};
        for (int scheme : schemes) {
            sent("SCHEME " + scheme, Stage.shown(World.both()), 47, 15, Own.bytes(scheme), new byte[8]);
        }
        Peer peer = Stage.shown(World.both());
        peer.x.offer(0, 2, 1);
        sent("a SCHEME that it does not OFFER by then", peer, 47, 15, peer.proof('S', 2, World.SERVER));
        for (int bit = 0; bit < 64; bit++) {
            peer = Stage.shown(World.both());
            byte[] wrong = peer.proof('S', 1, World.SERVER);
            wrong[1 + bit / 8] ^= 1 << bit % 8;
            sent("bit " + bit, peer, 51, 15, wrong);
        }
        peer = Stage.shown(World.both());
        sent("a client's letter", peer, 51, 15, peer.proof('C', 1, World.SERVER));
    }

    /** "20 END: 8 bytes"; "51 another one". */
    static void promise41_end() {
        for (int n = 0; n <= 10; n++) {
            Peer peer = Stage.proven(World.both());
            byte[] row = Own.cat(Own.secret(peer.end(peer.serverKey)), new byte[2]);
            sent("of " + n, peer, n == 8 ? 0 : 50, 20, Own.part(row, 0, n));
        }
        for (int bit = 0; bit < 64; bit++) {
            Peer peer = Stage.proven(World.both());
            sent("bit " + bit, peer, 51, 20, Own.secret(peer.end(peer.serverKey) ^ 1L << bit));
        }
    }

    /** "4 TICKET: FOUR its LIFE, FOUR its EARLY, its id of 8 bytes, a byte". */
    static void promise41_ticket() {
        for (int n = 0; n <= 19; n++) {
            Peer peer = Stage.opened(World.both());
            sent("of " + n, peer, n == 17 ? 0 : 50, 4, new byte[n]);
            Check.due("it came", peer.x.ticket(0, 0, 5), n == 17 ? 1 : -1);
        }
        int[] bytes = {0, 1, 127, 128, 255};
        for (int value : bytes) {
            Peer peer = Stage.opened(World.both());
            sent("byte " + value, peer, 0, 4, new byte[16], Own.bytes(value));
            long secret = Own.derived(0, peer.next, 't', value);
            Peer again = World.toClient(peer.x);
            again.answer(1, 7, 0, secret);
            again.send(8);
            again.endAsServer();
            again.takeClientEnd();
            Check.due("by its SECRET", again.told(0) * 10 + again.told(4), 12);
        }
    }

    /** "24 NEW KEYS: a byte, 0 or 1"; "47 another byte". */
    static void promise41_newKeys() {
        for (int n = 0; n <= 3; n++) {
            sent("of " + n, Stage.opened(World.both()), n == 1 ? 0 : 50, 24, new byte[n]);
        }
        for (int value = 0; value < 256; value++) {
            Peer peer = Stage.opened(World.both());
            long reading = peer.key(1);
            long writing = peer.key(0);
            peer.send(24, Own.bytes(value));
            Check.due("byte " + value, peer.told(6), value <= 1 ? -4 : 47);
            Check.due("the key for reading", peer.key(1), value <= 1 ? Own.derived(0, reading, 'u', 0) : reading);
            Check.due("the key for writing", peer.key(0), value == 1 ? Own.derived(0, writing, 'u', 0) : writing);
        }
    }

    // ---- 42: what a side puts, and how it comes

    /** "RECORDS of its own, of 200 bytes of it each, the last one what is left": CHAINS of 199, 200, 201, 400, 401 bytes. */
    static void promise42_messagesInRecordsOf200() {
        int[] sizes = {198, 199, 200, 201, 202, 399, 400, 401};
        for (int size : sizes) {
            byte[] one = Cert.ofSize(size - 8, "s", "r", World.SERVER, World.ROOT);
            Check.due("its length", one.length, size - 8);
            SecureLines x = new SecureLines();
            x.end(0);
            x.end(1);
            Own.hold(x, one);
            x.row(0);
            Check.due("identity", x.identity(1, World.SERVER), 1);
            Peer peer = World.toServer(x);
            peer.send(1, peer.helloBody(5, Peer.usualFields(1, 9), Peer.none()));
            peer.takeAnswer(9, 0);
            peer.expect(8);
            byte[] got = {};
            for (int left = size; left > 0; left -= 200) {
                byte[] text = peer.nextRecord();
                Check.due("a RECORD of " + size, text.length, Math.min(left, 200) + 1);
                Check.due("its kind", text[text.length - 1], 22);
                got = Own.cat(got, Own.part(text, 0, text.length - 1));
            }
            Check.that("the message", Arrays.equals(got, Peer.message(11, Peer.chain(NONE, one))));
            peer.note(got);
            peer.expect(15);
            peer.takeServerEnd();
        }
    }

    /** A greeting that is brought byte by byte is the same as one that is brought at once. */
    static void promise42_byteByByte() {
        SecureLines x = World.both();
        SecureLines y = World.both();
        int c = x.connection(0, 1);
        int d = Stage.open(y);
        int turns = 0;
        for (int got = 1; got > 0 && turns < 5000; turns++) {
            got = x.bring(c, 0, 1) + x.bring(c, 1, 1);
        }
        for (int side = 0; side <= 1; side++) {
            for (int what = 0; what <= 14; what++) {
                Check.due("told(" + side + ", " + what + ")", x.told(c, side, what), y.told(d, side, what));
            }
            for (int which = 0; which <= 7; which++) {
                Check.due("key(" + side + ", " + which + ")", x.key(c, side, which), y.key(d, side, which));
            }
        }
    }

    /** "What an end has counts as it is when it is asked for; the SHARED secrets that a HELLO bears stay those of that CONNECTION". */
    static void promise42_whatHelloBears() {
        SecureLines x = World.both();
        World.share(x, 0, "ab", 0, 6);
        World.share(x, 1, "ab", 0, 6);
        int c = x.connection(0, 1);
        x.forget(0, 0);
        World.share(x, 0, "ab", 0, 7);
        World.carry(x, c);
        Check.due("both are open", x.told(c, 0, 0) + x.told(c, 1, 0), 2);
        Check.due("one is used", x.told(c, 0, 4) + x.told(c, 1, 4), 2);
        SecureLines y = World.both();
        World.share(y, 0, "ab", 0, 6);
        World.share(y, 1, "ab", 0, 6);
        c = y.connection(0, 1);
        y.forget(1, 0);
        World.carry(y, c);
        Check.due("the server does not KNOW it by then", y.told(c, 0, 4) + y.told(c, 1, 4), 0);
        Check.due("both are open", y.told(c, 0, 0) + y.told(c, 1, 0), 2);
    }

    /** The greatest IDENTITY: four CERTIFICATES of 400 bytes and a STAPLE. */
    static void promise42_theGreatestChain() {
        SecureLines x = new SecureLines();
        x.end(0);
        x.end(1);
        byte[] one = Cert.ofSize(400, FORTY, FORTY, World.SERVER, World.ROOT);
        Check.due("held", Own.hold(x, one), 0);
        for (int i = 0; i < 4; i++) {
            x.row(0);
        }
        Check.due("identity", x.identity(1, World.SERVER), 4);
        byte[] staple = Cert.answer(FORTY, 9, 0, 0, 9, 1, World.ROOT);
        Own.feed(x, staple);
        x.answer();
        Peer peer = World.toServer(x);
        peer.send(1, peer.helloBody(5, Peer.usualFields(1, 9), Peer.none()));
        peer.takeAnswer(9, 0);
        peer.expect(8);
        Check.that("CHAIN", Arrays.equals(peer.expect(11), Peer.chain(staple, one, one, one, one)));
        peer.expect(15);
        peer.takeServerEnd();
    }
}
