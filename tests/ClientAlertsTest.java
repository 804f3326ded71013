import java.util.function.Consumer;

/** What a CLIENT finds wrong (promises 41, 42, 49): each ALERT, and which of several. */
public final class ClientAlertsTest {
    private static final byte[] NONE = {};

    public static void main(String[] args) {
        records();
        types();
        answers();
        retries();
        beginnings();
        askings();
        chains();
        paths();
        staples();
        hosts();
        proofsAndEnds();
        tickets();
        behind();
        byEarlyKey();
        Check.end("ClientAlertsTest");
    }

    private static Peer fresh() {
        return World.toClient(World.both());
    }

    private static Peer answered(SecureLines x) {
        Peer peer = World.toClient(x);
        peer.answer(1, 7, -1, 0);
        return peer;
    }

    private static Peer begun(SecureLines x) {
        Peer peer = answered(x);
        peer.send(8);
        return peer;
    }

    private static Peer shown(SecureLines x) {
        Peer peer = begun(x);
        peer.send(11, Peer.chain(NONE, World.server()));
        Check.due("shown", peer.told(12), 1);
        return peer;
    }

    private static Peer proven(SecureLines x) {
        Peer peer = shown(x);
        peer.send(15, peer.proof('S', 1, World.SERVER));
        return peer;
    }

    private static Peer opened(SecureLines x) {
        Peer peer = proven(x);
        peer.endAsServer();
        peer.takeClientEnd();
        Check.due("open", peer.told(0), 1);
        return peer;
    }

    private static void due(String what, Peer peer, int alert, int messages) {
        Check.due(what + ": messages", peer.told(13), messages);
        if (alert == 0) {
            Check.due(what + ": no ALERT", peer.told(6), -4);
        } else {
            peer.dueAlert(what, alert);
        }
    }

    private static void sent(String what, Peer peer, int alert, int type, byte[]... body) {
        int messages = peer.told(13);
        peer.send(type, body);
        due(what, peer, alert, alert == 0 ? messages + 1 : messages);
    }

    private static void records() {
        Peer peer = fresh();
        peer.give(Own.bytes(24, 0, 0));
        due("kind 24", peer, 10, 0);
        peer = fresh();
        peer.give(Own.bytes(21, 1, 45));
        due("301 bytes", peer, 22, 0);
        peer = fresh();
        peer.give(Own.bytes(23, 0, 20), new byte[20]);
        due("23 without a key", peer, 10, 0);
        peer = answered(World.both());
        peer.give(Own.bytes(22, 0, 3, 8, 0, 0));
        due("22 with a key", peer, 10, 1);
        peer = answered(World.both());
        peer.give(Own.bytes(23, 0, 20), new byte[20]);
        due("23 that does not open", peer, 20, 1);
        peer = proven(World.both());
        peer.give(peer.record(23, Own.bytes(1)));
        due("said ahead of END", peer, 10, 4);
        peer = proven(World.both());
        peer.endAsServer();
        peer.give(peer.record(23, Own.bytes(1)));
        due("said behind END", peer, 0, 5);
        Check.due("heard", peer.x.hear(peer.c, 0), 1);
        peer = fresh();
        peer.give(Own.bytes(21, 0, 1, 40));
        Check.due("ALERT 40", peer.told(7), 40);
        Check.due("ENDED", peer.told(0), 2);
        peer = fresh();
        peer.give(Own.bytes(22, 0, 3, 2, 9, 197));
        due("a BODY of 2501", peer, 50, 0);
    }

    private static void types() {
        for (int type = 0; type <= 25; type++) {
            byte[] message = Own.bytes(type, 0, 0);
            if (type != 2 && type != 6) {
                Peer peer = fresh();
                peer.give(peer.record(22, message));
                due("first " + type, peer, 10, 0);
            }
            if (type != 8) {
                Peer peer = answered(World.both());
                peer.give(peer.record(22, message));
                due("behind ANSWER " + type, peer, 10, 1);
            }
            if (type != 11) {
                Peer peer = begun(World.both());
                peer.send(13, Peer.field(5, Own.bytes(1)));
                peer.give(peer.record(22, message));
                due("behind ASKING " + type, peer, 10, 3);
            }
            if (type != 11 && type != 13) {
                Peer peer = begun(World.both());
                peer.give(peer.record(22, message));
                due("behind SEALED BEGINNING " + type, peer, 10, 2);
            }
            if (type != 15) {
                Peer peer = shown(World.both());
                peer.give(peer.record(22, message));
                due("behind CHAIN " + type, peer, 10, 3);
            }
            if (type != 20) {
                Peer peer = proven(World.both());
                peer.give(peer.record(22, message));
                due("behind PROOF " + type, peer, 10, 4);
            }
            if (type != 4 && type != 24) {
                Peer peer = opened(World.both());
                peer.give(peer.record(22, message));
                due("open " + type, peer, 10, 5);
            }
        }
        // with a SHARED secret END comes at once
        SecureLines x = World.both();
        World.share(x, 0, "ab", 0, 6);
        int[] types = {11, 13, 15};
        for (int type : types) {
            Peer peer = World.toClient(x);
            peer.answer(1, 7, 0, 6);
            peer.send(8);
            sent("with a SHARED secret " + type, peer, 10, type);
        }
        // RETRY only once
        Peer peer = fresh();
        peer.suite = 1;
        peer.shorten();
        peer.send(6, Own.bytes(1), Peer.field(3, Own.bytes(2)));
        peer.takeHello();
        sent("another RETRY", peer, 10, 6, Own.bytes(1), Peer.field(3, Own.bytes(3)));
    }

    private static void answer(String what, int alert, SecureLines x, int suite, byte[]... fields) {
        Peer peer = World.toClient(x);
        sent(what, peer, alert, 2, new byte[8], Own.bytes(suite), Own.cat(fields));
        if (alert != 0) {
            Check.due(what + ": SUITE", peer.told(1), 0);
            Check.due(what + ": EARLY", peer.key(2), 0);
        }
    }

    private static void answers() {
        byte[] share = Peer.field(4, Own.bytes(1), Own.four(5));
        byte[] chosen = Peer.field(10, Own.bytes(0));
        Peer peer = fresh();
        sent("of 8 bytes", peer, 50, 2, new byte[8]);
        answer("right", 0, World.both(), 3, share);
        answer("SHARE of 4", 50, World.both(), 1, Peer.field(4, new byte[4]));
        answer("CHOSEN of 2", 50, World.both(), 1, share, Peer.field(10, new byte[2]));
        answer("CHOSEN of none", 50, World.both(), 1, share, Peer.field(10));
        answer("a FIELD cut", 50, World.both(), 1, share, Own.bytes(5, 0));
        answer("not rising", 47, World.both(), 1, chosen, share);
        answer("other FIELDS", 110, World.both(), 1, share, Peer.field(5, Own.bytes(1)));
        answer("other FIELDS 0", 110, World.both(), 9, Peer.field(0), share);
        answer("a FIELD behind CHOSEN", 110, World.both(), 1, share, chosen, Peer.field(11));
        answer("50 ahead of 110", 50, World.both(), 1, Peer.field(3), share, Peer.field(10));
        answer("SUITE 4", 47, World.both(), 4, share);
        answer("SUITE 0", 47, World.both(), 0, share);
        SecureLines two = World.both();
        two.offer(0, 0, 0x0103);
        answer("a SUITE that it does not OFFER", 47, two, 2, share);
        answer("CHOSEN without SHARED", 47, World.both(), 1, share, chosen);
        answer("no SHARE, no CHOSEN", 109, World.both(), 1);
        answer("47 ahead of 109", 47, World.both(), 4);
        answer("SHARE of another GROUP", 47, World.both(), 1, Peer.field(4, Own.bytes(2), Own.four(5)));
        answer("SHARE 1", 47, World.both(), 1, Peer.field(4, Own.bytes(1), Own.four(1)));
        answer("SHARE below 0", 47, World.both(), 1, Peer.field(4, Own.bytes(1), Own.four(-5)));
        SecureLines late = World.both();
        late.setting(0, 5, 0);
        answer("SHARE without one put", 47, late, 1, share);
        SecureLines sharing = World.both();
        World.share(sharing, 0, "ab", 0, 6);
        World.share(sharing, 0, "cd", 1, 6);
        answer("CHOSEN 0", 0, sharing, 1, share, chosen);
        answer("CHOSEN 1", 0, sharing, 3, share, Peer.field(10, Own.bytes(1)));
        answer("CHOSEN 2", 47, sharing, 1, share, Peer.field(10, Own.bytes(2)));
        answer("CHOSEN 255", 47, sharing, 1, share, Peer.field(10, Own.bytes(255)));
        answer("CHOSEN of another h", 47, sharing, 3, share, chosen);
        answer("CHOSEN of another h", 47, sharing, 2, share, Peer.field(10, Own.bytes(1)));
        // other FIELDS of another message do not count
        Peer server = World.toServer(sharing);
        server.send(1, server.helloBody(5, new java.util.TreeMap<>(java.util.Map.of(1, Own.bytes(4), 99, NONE)), Peer.none()));
        answer("right, behind another's other FIELDS", 0, sharing, 1, share, chosen);
        answer("no SHARE, MODES 2", 47, sharing, 1, chosen);
        sharing.setting(0, 6, 1);
        answer("no SHARE, MODES 3", 0, sharing, 1, chosen);
        answer("no SHARE, no CHOSEN, MODES 3", 109, sharing, 1);
        // what it OFFERS by then
        SecureLines x = World.both();
        peer = World.toClient(x);
        x.offer(0, 0, 2);
        sent("what it OFFERS by then", peer, 47, 2, new byte[8], Own.bytes(1), share);
        // what HELLO bore stays
        x = World.both();
        World.share(x, 0, "ab", 0, 6);
        peer = World.toClient(x);
        x.forget(0, 0);
        peer.answer(1, 7, 0, 6);
        Check.due("what HELLO bore stays", peer.told(4), 1);
        // behind RETRY another SUITE than told
        peer = fresh();
        peer.suite = 1;
        peer.shorten();
        peer.send(6, Own.bytes(1), Peer.field(3, Own.bytes(2)));
        peer.takeHello();
        sent("another SUITE than RETRY told", peer, 47, 2, new byte[8], Own.bytes(2),
            Peer.field(4, Own.bytes(2), Own.four(5)));
    }

    private static void retry(String what, int alert, SecureLines x, byte[]... body) {
        sent(what, World.toClient(x), alert, 6, body);
    }

    private static void retries() {
        byte[] two = Peer.field(3, Own.bytes(2));
        retry("right", 0, World.both(), Own.bytes(1), two);
        retry("with COOKIE", 0, World.both(), Own.bytes(1), two, Peer.field(9, new byte[8]));
        retry("no BODY", 50, World.both());
        retry("GROUP of two", 50, World.both(), Own.bytes(1), Peer.field(3, Own.bytes(2, 3)));
        retry("GROUP of none", 50, World.both(), Own.bytes(1), Peer.field(3));
        retry("COOKIE of 7", 50, World.both(), Own.bytes(1), two, Peer.field(9, new byte[7]));
        retry("not rising", 47, World.both(), Own.bytes(1), Peer.field(9, new byte[8]), two);
        retry("other FIELDS", 110, World.both(), Own.bytes(1), two, Peer.field(4, new byte[5]));
        retry("110 ahead of 47", 110, World.both(), Own.bytes(9), Peer.field(1, new byte[5]));
        retry("SUITE 9", 47, World.both(), Own.bytes(9), two);
        retry("no GROUP", 47, World.both(), Own.bytes(1));
        retry("GROUP 4", 47, World.both(), Own.bytes(1), Peer.field(3, Own.bytes(4)));
        retry("GROUP 0", 47, World.both(), Own.bytes(1), Peer.field(3, Own.bytes(0)));
        retry("that of the SHARE", 47, World.both(), Own.bytes(1), Peer.field(3, Own.bytes(1)));
        SecureLines late = World.both();
        late.setting(0, 5, 0);
        retry("no SHARE was put", 0, late, Own.bytes(1), Peer.field(3, Own.bytes(1)));
        SecureLines one = World.both();
        one.offer(0, 1, 1);
        retry("one that it does not OFFER", 47, one, Own.bytes(1), two);
        Peer peer = fresh();
        peer.send(6, Own.bytes(2), Peer.field(3, Own.bytes(1)));
        Check.due("a wrong RETRY tells no SUITE", peer.told(1), 0);
    }

    private static void beginnings() {
        sent("right", answered(World.both()), 0, 8);
        sent("EARLY with bytes", answered(World.both()), 50, 8, Peer.field(8, Own.bytes(1)));
        sent("a FIELD cut", answered(World.both()), 50, 8, Own.bytes(8, 0));
        sent("not rising", answered(World.both()), 47, 8, Peer.field(9), Peer.field(8));
        sent("other FIELDS", answered(World.both()), 110, 8, Peer.field(7, Own.bytes(1)));
        sent("EARLY, not put", answered(World.both()), 110, 8, Peer.field(8));
        // put, but CHOSEN is not 0
        int[] chosen = {-1, 1};
        for (int which : chosen) {
            Peer peer = early(200);
            peer.suite = 1;
            if (which == 1) {
                peer.answer(1, 6, 1, 4);
            } else {
                peer.answer(1, 6, -1, 0);
            }
            peer.send(8, Peer.field(8));
            Check.due("CHOSEN " + which, peer.told(6), 47);
        }
        // put at first, but RETRY came
        Peer peer = early(200);
        peer.suite = 1;
        peer.shorten();
        peer.send(6, Own.bytes(1), Peer.field(3, Own.bytes(2)));
        Check.due("no key for writing", peer.key(0), 0);
        peer.inbox = NONE;
        peer.fetch();
        int skip = 0;
        while (peer.inbox[skip] == 23) {
            skip += 3 + ((peer.inbox[skip + 1] & 255) << 8 | peer.inbox[skip + 2] & 255);
        }
        peer.inbox = Own.part(peer.inbox, skip, peer.inbox.length);
        peer.takeHello();
        Check.that("no EARLY", !peer.helloFields.containsKey(8));
        peer.answer(1, 6, -1, 0);
        sent("EARLY behind RETRY", peer, 110, 8, Peer.field(8));
    }

    /** A client that has a TICKET and another SHARED secret, and put so many early bytes; they wait behind HELLO. */
    private static Peer early(int count) {
        Peer first = opened(World.both());
        first.send(4, Own.four(60), Own.four(400), Own.secret(77), Own.bytes(0));
        World.share(first.x, 0, "cd", 0, 4);
        Own.feed(first.x, new byte[count]);
        first.x.early(0);
        Peer peer = World.toClient(first.x);
        Check.that("EARLY", peer.helloFields.containsKey(8));
        return peer;
    }

    private static void askings() {
        sent("right", begun(World.both()), 0, 13, Peer.field(5, Own.bytes(9)));
        sent("no SCHEMES", begun(World.both()), 109, 13);
        sent("SCHEMES of none", begun(World.both()), 50, 13, Peer.field(5));
        sent("other FIELDS", begun(World.both()), 110, 13, Peer.field(6, Own.bytes(9)));
        sent("other FIELDS, too", begun(World.both()), 110, 13, Peer.field(5, Own.bytes(1)), Peer.field(10, new byte[1]));
        sent("cut", begun(World.both()), 50, 13, Own.bytes(5, 0, 1));
    }

    private static void chain(String what, int alert, byte[] body) {
        Peer peer = begun(World.both());
        sent(what, peer, alert, 11, body);
        Check.due(what + ": shown", peer.told(12), alert == 0 ? body[0] : 0);
    }

    private static void chains() {
        byte[] good = World.server();
        chain("right", 0, Peer.chain(NONE, good));
        chain("with the ANCHOR", 0, Peer.chain(NONE, good, World.root()));
        chain("no BODY", 50, NONE);
        chain("n = 0", 50, Own.bytes(0, 0, 0));
        chain("n = 5", 50, Peer.chain(NONE, good, good, good, good, good));
        chain("n = 255", 50, Own.bytes(255, 0, 0));
        chain("without STAPLE", 50, Own.cat(Own.bytes(1), Own.two(good.length), good));
        chain("bytes behind", 50, Own.cat(Peer.chain(NONE, good), new byte[1]));
        chain("beyond", 50, Own.cat(Own.bytes(1), Own.two(good.length + 1), good));
        chain("no CERTIFICATE", 42, Peer.chain(NONE, Own.part(good, 0, good.length - 1)));
        chain("another NODE", 42, Peer.chain(NONE, Own.node(48)));
        chain("above 400 bytes", 42, Peer.chain(NONE, new byte[401]));
        chain("a FAULT in a NAME", 42, Peer.chain(NONE, new Cert("sr!", "root", 21).by(World.ROOT)));
        chain("a FAULT in a STAPLE", 113, Peer.chain(Cert.answer("ro!t", 2, 0, 0, 9, 1, World.ROOT), good));
        chain("no CERTIFICATE ahead of no ANSWER", 42, Peer.chain(Own.bytes(1), Own.bytes(1)));
        chain("no ANSWER", 113, Peer.chain(Own.bytes(1), good));
        chain("a LIST", 113, Peer.chain(Cert.list("root", 1, 0, 9, 1, World.ROOT), good));
        chain("no ANSWER ahead of the PATH", 113, Peer.chain(Own.bytes(4, 0), new Cert("srv", "other", 21).by(1)));
        chain("no such ANCHOR", 48, Peer.chain(NONE, new Cert("srv", "other", 21).by(1)));
        chain("48 ahead of 42", 48, Peer.chain(NONE, good, new Cert("srv", "other", 21).by(1)));
        chain("ISSUER is not SUBJECT", 42, Peer.chain(NONE, good, new Cert("srv", "root", 21).by(World.ROOT)));
        chain("two are one", 42, Peer.chain(NONE, new Cert("root", "root", 8).by(World.ROOT),
            new Cert("root", "root", 8).by(World.ROOT)));
        chain("the ANCHOR twice", 42, Peer.chain(NONE, World.root(), World.root()));
        chain("the ANCHOR not last", 42, Peer.chain(NONE, World.root(), new Cert("root", "root", 8).by(World.ROOT)));
        chain("an ANCHOR alone", 0, Peer.chain(NONE, World.root()));
    }

    private static void path(String what, int alert, int time, Consumer<SecureLines> setUp, byte[]... certificates) {
        SecureLines x = World.both();
        setUp.accept(x);
        Peer peer = begun(x);
        x.tick(time);
        sent(what, peer, alert, 11, Peer.chain(NONE, certificates));
        Check.due("not held by it", x.field(3, 0), -1);
    }

    private static void paths() {
        Consumer<SecureLines> no = x -> { };
        Cert mid = new Cert("mid", "root", 22).office();
        Cert leaf = new Cert("srv", "mid", World.SERVER);
        path("right", 0, 5, no, leaf.by(22), mid.by(World.ROOT));
        path("SIGNATURE", 42, 5, no, leaf.by(23), mid.by(World.ROOT));
        path("the second's SIGNATURE", 42, 5, no, leaf.by(22), mid.by(22));
        path("below FROM", 45, 5, no, new Cert("srv", "root", 21).times(6, 9).by(World.ROOT));
        path("above TO", 45, 10, no, new Cert("srv", "root", 21).times(6, 9).by(World.ROOT));
        path("in time", 0, 9, no, new Cert("srv", "root", 21).times(6, 9).by(World.ROOT));
        path("no OFFICE", 46, 5, no, leaf.by(22), new Cert("mid", "root", 22).by(World.ROOT));
        path("a client's USES", 46, 5, no, new Cert("srv", "root", 21).uses(2).by(World.ROOT));
        path("an office's USES", 46, 5, no, leaf.by(22), new Cert("mid", "root", 22).office().uses(8).by(World.ROOT));
        path("DEPTH", 46, 5, no, new Cert("srv", "low", 21).by(24), new Cert("low", "mid", 24).office().by(22),
            new Cert("mid", "root", 22).office().depth(0).by(World.ROOT));
        path("NAMES", 46, 5, no, new Cert("srv", "mid", 21).names("a").by(22),
            new Cert("mid", "root", 22).office().excluded("a").by(World.ROOT));
        path("REVOKED", 44, 5, x -> {
            Own.feed(x, Cert.list("root", 1, 0, 9, 1, World.ROOT, 2));
            x.list();
        }, World.server());
        path("UNKNOWN, STRICT", 113, 5, x -> x.setting(0, 0, 1), World.server());
        path("45 of the first ahead of 42 of the second", 45, 5, no, new Cert("srv", "mid", 21).times(6, 9).by(22), mid.by(22));
        // four of them and an ANCHOR
        path("four and the ANCHOR", 0, 5, no, new Cert("srv", "c", 21).by(27), new Cert("c", "b", 27).office().by(26),
            new Cert("b", "a", 26).office().by(25), new Cert("a", "root", 25).office().by(World.ROOT));
        // of the ANCHORS with that SUBJECT the one that was told first counts
        SecureLines x = World.both();
        x.end(0);
        Own.hold(x, new Cert("root", "root", 99).office().by(99));
        x.trust(2, 3);
        x.trust(2, 0);
        Peer peer = new Peer(x, x.connection(2, -1), 1);
        peer.takeHello();
        peer.answer(1, 7, -1, 0);
        peer.send(8);
        sent("the first ANCHOR counts", peer, 42, 11, Peer.chain(NONE, World.server()));
        x.trust(0, 3);
        sent("the first ANCHOR counts", begun(x), 0, 11, Peer.chain(NONE, World.server()));
        // ANCHORS by then
        SecureLines y = new SecureLines();
        y.end(0);
        Own.hold(y, World.root());
        peer = World.toClient(y);
        peer.answer(1, 7, -1, 0);
        peer.send(8);
        y.trust(0, 0);
        sent("ANCHORS by then", peer, 0, 11, Peer.chain(NONE, World.server()));
    }

    private static void staple(String what, int alert, int strict, byte[] staple, byte[]... held) {
        SecureLines x = World.both();
        x.setting(0, 0, strict);
        for (byte[] answer : held) {
            Own.feed(x, answer);
            x.answer();
        }
        Peer peer = begun(x);
        sent(what, peer, alert, 11, Peer.chain(staple, World.server()));
    }

    private static void staples() {
        byte[] good = Cert.answer("root", 2, 0, 0, 9, 1, World.ROOT);
        byte[] bad = Cert.answer("root", 2, 1, 0, 9, 1, World.ROOT);
        staple("good, STRICT", 0, 1, good);
        staple("REVOKED", 44, 0, bad);
        staple("held: REVOKED", 44, 0, NONE, bad);
        staple("held: REVOKED, a STAPLE counts as last", 0, 1, good, bad);
        staple("held: good, a STAPLE counts as last", 44, 1, bad, good);
        staple("of another SERIAL", 113, 1, Cert.answer("root", 3, 0, 0, 9, 1, World.ROOT));
        staple("of another SERIAL, held tells", 44, 1, Cert.answer("root", 3, 0, 0, 9, 1, World.ROOT), bad);
        staple("by another KEY", 113, 1, Cert.answer("root", 2, 0, 0, 9, 1, 5));
        staple("by another KEY, not STRICT", 0, 0, Cert.answer("root", 2, 1, 0, 9, 1, 5));
        staple("of another ISSUER", 113, 1, Cert.answer("r", 2, 0, 0, 9, 1, World.ROOT));
        staple("over", 113, 1, Cert.answer("root", 2, 0, 1, 9, 1, World.ROOT));
        // a STAPLE that was shown counts for no other PATH
        SecureLines z = World.both();
        Peer shown = begun(z);
        shown.send(11, Peer.chain(bad, World.server()));
        Check.due("build", z.build(0, 1, 5, 1), 2);
        shown = begun(z);
        shown.send(11, Peer.chain(bad, World.server()));
        Check.due("judge", z.judge(0, 5, 1), 0);
        // it is not held: a path later does not have it
        SecureLines x = World.both();
        Peer peer = begun(x);
        peer.send(11, Peer.chain(bad, World.server()));
        Check.due("REVOKED", peer.told(6), 44);
        Check.due("not held", x.status(1, 0, 0), 2);
        sent("not held", begun(x), 0, 11, Peer.chain(NONE, World.server()));
        // of the second of a CHAIN, too
        SecureLines y = World.both();
        byte[] mid = new Cert("mid", "root", 22).serial(7).office().by(World.ROOT);
        sent("of the second", begun(y), 44, 11, Peer.chain(Cert.answer("root", 7, 1, 0, 9, 1, World.ROOT),
            new Cert("srv", "mid", 21).by(22), mid));
    }

    private static void host(String name, int alert, String... names) {
        SecureLines x = World.both();
        Own.feed(x, Own.text(name));
        x.host(0);
        Peer peer = begun(x);
        sent("HOST " + name, peer, alert, 11, Peer.chain(NONE, new Cert("srv", "root", 21).names(names).by(World.ROOT)));
    }

    private static void hosts() {
        host("a.b", 0, "a.b");
        host("a.b", 0, "x", "*.c.d", "a.b");
        host("a.b", 42, "x", "a.b.c", "b");
        host("a.b", 42);
        host("x.c.d", 0, "*.c.d");
        host("c.d", 42, "*.c.d");
        host("y.x.c.d", 42, "*.c.d");
        host("xc.d", 42, "*.c.d");
        host("srv", 42, "a.b");
        host("root", 42, "*.a.b");
        // NAMES of what was shown before do not count
        SecureLines w = World.both();
        Own.feed(w, Own.text("a.b"));
        w.host(0);
        sent("NAMES", begun(w), 0, 11, Peer.chain(NONE, World.server()));
        sent("no NAMES", begun(w), 42, 11, Peer.chain(NONE, new Cert("srv", "root", 21).by(World.ROOT)));
        // an ANCHOR alone: USES and HOST
        sent("an ANCHOR alone", begun(w), 42, 11, Peer.chain(NONE, World.root()));
        SecureLines v = new SecureLines();
        v.end(0);
        byte[] anchor = new Cert("s", "t", 21).uses(2).by(5);
        Own.hold(v, anchor);
        v.trust(0, 0);
        sent("an ANCHOR's USES", begun(v), 46, 11, Peer.chain(NONE, anchor));
        SecureLines x = World.both();
        Own.feed(x, Own.text("z"));
        x.host(0);
        sent("the PATH ahead of HOST", begun(x), 45, 11, Peer.chain(NONE, new Cert("srv", "root", 21).times(6, 9).by(World.ROOT)));
    }

    private static void proofsAndEnds() {
        Peer peer = shown(World.both());
        sent("PROOF of 8", peer, 50, 15, new byte[8]);
        peer = shown(World.both());
        sent("SCHEME 0", peer, 47, 15, new byte[9]);
        peer = shown(World.both());
        sent("a client's PROOF", peer, 51, 15, peer.proof('C', 1, World.SERVER));
        Check.due("no SCHEME", peer.told(3), 0);
        peer = shown(World.both());
        sent("another KEY's", peer, 51, 15, peer.proof('S', 1, World.ROOT));
        peer = shown(World.both());
        peer.x.offer(0, 2, 2);
        sent("a SCHEME that it does not OFFER", peer, 47, 15, peer.proof('S', 1, World.SERVER));
        peer = proven(World.both());
        sent("END of 0s", peer, 51, 20, new byte[8]);
        peer = proven(World.both());
        sent("the client's END", peer, 51, 20, Own.secret(peer.end(peer.clientKey)));
        Check.due("no MASTER", peer.key(4), 0);
        peer = proven(World.both());
        sent("END of 9", peer, 50, 20, new byte[9]);
    }

    private static void tickets() {
        Peer peer = opened(World.both());
        sent("TICKET of 16", peer, 50, 4, new byte[16]);
        peer = opened(World.both());
        sent("TICKET of 18", peer, 50, 4, new byte[18]);
        peer = opened(World.both());
        sent("NEW KEYS 9", peer, 47, 24, Own.bytes(9));
        peer = opened(World.both());
        for (int i = 0; i < 7; i++) {
            sent("TICKET", peer, 0, 4, new byte[17]);
        }
        Check.due("six are kept", peer.x.forget(0, 5), 5);
        // NEW KEYS that ask
        peer = opened(World.both());
        peer.send(24, Own.bytes(1));
        Check.due("NEW KEYS 0 come", peer.expect(24)[0], 0);
        Check.due("the next key for reading", peer.key(1), Own.derived(0, peer.writeKey, 'u', 0));
        Check.due("the next key for writing", peer.key(0), Own.derived(0, peer.readKey, 'u', 0));
        // two in one record
        peer = opened(World.both());
        byte[] ticket = Peer.message(4, new byte[17]);
        peer.give(peer.record(22, Own.cat(ticket, ticket)));
        due("two in one record", peer, 0, 7);
    }

    private static void behind() {
        Peer peer = fresh();
        byte[] answer = Peer.message(2, new byte[8], Own.bytes(1), Peer.field(4, Own.bytes(1), Own.four(5)));
        peer.give(peer.record(22, Own.cat(answer, new byte[1])));
        due("behind ANSWER", peer, 10, 0);
        Check.due("SUITE", peer.told(1), 0);
        peer = fresh();
        byte[] wrong = Peer.message(2, new byte[8], Own.bytes(9));
        peer.give(peer.record(22, Own.cat(wrong, new byte[1])));
        due("47 ahead of 10", peer, 47, 0);
        peer = fresh();
        byte[] retry = Peer.message(6, Own.bytes(1), Peer.field(3, Own.bytes(2)));
        peer.give(peer.record(22, Own.cat(retry, Own.part(answer, 0, 2))));
        due("behind RETRY", peer, 0, 1);
        peer = proven(World.both());
        byte[] end = Peer.message(20, Own.secret(peer.end(peer.serverKey)));
        peer.give(peer.record(22, Own.cat(end, Own.bytes(4))));
        due("behind END", peer, 10, 4);
        Check.due("no MASTER", peer.key(4), 0);
        peer = opened(World.both());
        peer.give(peer.record(22, Own.bytes(24, 0, 1, 1, 0)));
        due("behind NEW KEYS", peer, 10, 5);
        peer = answered(World.both());
        byte[] rest = Own.cat(Peer.message(8), Peer.message(11, Peer.chain(NONE, World.server())));
        peer.give(peer.record(22, rest));
        due("two in one record", peer, 0, 3);
    }

    /** An ALERT is sealed by the key for early bytes, as long as that is the key for writing. */
    private static void byEarlyKey() {
        Peer peer = early(3);
        long key = peer.key(0);
        peer.suite = 1;
        peer.readBy(key);
        Check.due("the early bytes", peer.nextRecord().length, 4);
        peer.send(2, new byte[8], Own.bytes(9));
        peer.dueAlert("by the key for early bytes", 47);
        peer = early(3);
        key = peer.key(0);
        peer.answer(1, 6, 1, 4);
        peer.readBy(key);
        Check.due("the early bytes", peer.nextRecord().length, 4);
        peer.send(8, Peer.field(8));
        peer.dueAlert("CHOSEN is not 0", 47);
    }
}
