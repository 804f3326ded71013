import java.util.List;
import java.util.TreeMap;
import java.util.function.Consumer;

/** What a SERVER finds wrong (promises 41, 42, 49): each ALERT, and which of several. */
public final class ServerAlertsTest {
    public static void main(String[] args) {
        records();
        messages();
        helloForms();
        helloFields();
        helloShared();
        behindRetry();
        joints();
        behind();
        earlyBytes();
        chains();
        proofsAndEnds();
        whenOpen();
        Check.end("ServerAlertsTest");
    }

    private static Peer fresh() {
        return World.toServer(World.both());
    }

    private static void given(String what, Peer peer, int due, byte[]... rows) {
        peer.give(rows);
        if (due == 0) {
            Check.due(what + ": no ALERT", peer.told(6), -4);
        } else {
            peer.dueAlert(what, due);
        }
    }

    private static byte[] usualHello(Peer peer) {
        return Peer.message(1, peer.helloBody(5, Peer.usualFields(1, 9), Peer.none()));
    }

    /** A peer that has got the server's END. */
    private static Peer greeted(SecureLines x) {
        Peer peer = World.toServer(x);
        peer.send(1, peer.helloBody(5, Peer.usualFields(1, 9), Peer.none()));
        peer.takeAnswer(9, 0);
        byte[] got = {0};
        while (got[0] != 20) {
            got = peer.nextMessage();
        }
        peer.makeMaster();
        peer.readBy(peer.sayServer);
        return peer;
    }

    private static void records() {
        given("kind 20", fresh(), 10, Own.bytes(20, 0, 0));
        given("kind 24", fresh(), 10, Own.bytes(24, 255, 255));
        given("kind 0", fresh(), 10, Own.bytes(0, 0, 1));
        given("two bytes of it", fresh(), 0, Own.bytes(24, 0));
        given("301 bytes", fresh(), 22, Own.bytes(22, 1, 45));
        given("301 bytes of 23", fresh(), 22, Own.bytes(23, 1, 45));
        given("300 bytes", fresh(), 0, Own.bytes(22, 1, 44));
        given("23 without a key", fresh(), 10, Own.bytes(23, 0, 1, 5));
        given("23 without a key, not whole", fresh(), 0, Own.bytes(23, 0, 1));
        given("23 without a key and bytes", fresh(), 10, Own.bytes(23, 0, 0));
        given("22 without bytes", fresh(), 50, Own.bytes(22, 0, 0));
        given("21 without bytes", fresh(), 50, Own.bytes(21, 0, 0));
        given("21 of two bytes", fresh(), 50, Own.bytes(21, 0, 2, 0, 0));
        Peer ended = fresh();
        ended.give(Own.bytes(21, 0, 1, 77));
        Check.due("ALERT 77 ends", ended.told(0), 2);
        Check.due("ALERT got", ended.told(7), 77);
        Check.due("none put", ended.told(6), -4);
        Check.due("nothing is put", ended.x.line(ended.c, 1, -1), 0);
        ended.give(Own.bytes(9, 9, 9));
        Check.due("what comes is lost", ended.told(6), -4);
        Check.due("hear", ended.x.hear(ended.c, 1), -12);
        // with keys
        Peer keyed = greeted(World.both());
        given("22 with a key", keyed, 10, Own.bytes(22, 0, 1, 20));
        given("21 with a key", greeted(World.both()), 10, Own.bytes(21, 0, 1, 5));
        given("22 with a key and no bytes", greeted(World.both()), 10, Own.bytes(22, 0, 0));
        given("23 without bytes", greeted(World.both()), 50, Own.bytes(23, 0, 0));
        given("23 that does not open", greeted(World.both()), 20, Own.bytes(23, 0, 12), new byte[12]);
        Peer peer = greeted(World.both());
        given("a TAG alone", peer, 20, peer.sealed(new byte[0]));
        peer = greeted(World.both());
        given("kind 20 inside", peer, 10, peer.sealed(Own.bytes(5, 20)));
        peer = greeted(World.both());
        given("kind 0 inside", peer, 10, peer.sealed(Own.bytes(0)));
        peer = greeted(World.both());
        given("an ALERT without bytes", peer, 50, peer.sealed(Own.bytes(21)));
        peer = greeted(World.both());
        given("an ALERT of two", peer, 50, peer.sealed(Own.bytes(0, 0, 21)));
        peer = greeted(World.both());
        given("MESSAGES without bytes", peer, 50, peer.sealed(Own.bytes(22)));
        peer = greeted(World.both());
        given("said too early", peer, 10, peer.sealed(Own.bytes(5, 23)));
        peer = greeted(World.both());
        given("nothing said too early", peer, 10, peer.sealed(Own.bytes(23)));
        peer = greeted(World.both());
        peer.give(peer.sealed(Own.bytes(33, 21)));
        Check.due("a sealed ALERT", peer.told(7), 33);
        Check.due("it is read", peer.told(11), 1);
        Check.due("ENDED", peer.told(0), 2);
        peer = greeted(World.both());
        peer.give(peer.sealed(Own.bytes(0, 21)));
        Check.due("CLOSED", peer.told(9), 1);
        // a record in parts, and several at once
        Peer parts = fresh();
        byte[] hello = parts.records(usualHello(parts));
        for (byte one : hello) {
            parts.give(new byte[] {one});
        }
        Check.due("byte by byte", parts.told(13), 1);
        Peer wrongTag = greeted(World.both());
        byte[] record = wrongTag.record(22, Own.bytes(1));
        record[record.length - 1] ^= 1;
        given("the last bit of the TAG", wrongTag, 20, record);
        Peer wrongHead = greeted(World.both());
        wrongHead.writeNumber = 1;
        given("another number", wrongHead, 20, wrongHead.record(22, Own.bytes(1)));
    }

    private static void messages() {
        given("a BODY of 2501", fresh(), 50, Own.bytes(22, 0, 3, 99, 9, 197));
        given("a BODY of 2500", fresh(), 0, Own.bytes(22, 0, 3, 99, 9, 196));
        given("two bytes of it", fresh(), 0, Own.bytes(22, 0, 2, 99, 255));
        given("type 99", fresh(), 10, Own.bytes(22, 0, 3, 99, 0, 0));
        given("type 99, not whole", fresh(), 0, Own.bytes(22, 0, 3, 99, 0, 1));
        int[] types = {0, 2, 4, 5, 6, 8, 11, 13, 15, 20, 24, 254};
        for (int type : types) {
            given("type " + type + " first", fresh(), 10, Own.bytes(22, 0, 3, type, 0, 0));
        }
        int[] later = {1, 2, 4, 5, 6, 8, 11, 13, 15, 24};
        for (int type : later) {
            Peer peer = greeted(World.both());
            given("type " + type + " for END", peer, 10, peer.record(22, Own.bytes(type, 0, 0)));
            SecureLines x = World.both();
            x.setting(1, 1, 1);
            Peer asked = greeted(x);
            given("type " + type + " for CHAIN", asked, type == 11 ? 50 : 10, asked.record(22, Own.bytes(type, 0, 0)));
        }
        SecureLines x = World.both();
        x.setting(1, 1, 1);
        Peer asked = greeted(x);
        given("END for CHAIN", asked, 10, asked.record(22, Peer.message(20, Own.secret(asked.end(asked.clientKey)))));
        // a HELLO of two records with an ALERT of 0 between: what comes behind is lost
        Peer parts = fresh();
        byte[] hello = usualHello(parts);
        parts.give(parts.record(22, Own.part(hello, 0, 9)), Own.bytes(21, 0, 1, 0));
        parts.give(parts.record(22, Own.part(hello, 9, hello.length)));
        Check.due("lost", parts.told(13), 0);
        // a HELLO of many records
        Peer many = fresh();
        for (int i = 0; i < hello.length; i++) {
            many.give(many.record(22, Own.part(hello, i, i + 1)));
        }
        Check.due("of many records", many.told(13), 1);
    }

    private static void helloBody(String what, int due, byte[]... rows) {
        Peer peer = fresh();
        given(what, peer, due, peer.records(Peer.message(1, rows)));
        if (due != 0) {
            Check.due(what + ": SUITE", peer.told(1), 0);
            Check.due(what + ": messages", peer.told(13), 0);
            Check.due(what + ": THE DIGEST", peer.key(7), 0);
        }
    }

    private static void helloForms() {
        byte[] r = Own.secret(5);
        byte[] v = Peer.field(1, Own.bytes(4));
        helloBody("RANDOM of 7", 50, new byte[7]);
        helloBody("no BODY", 50);
        helloBody("RANDOM alone", 70, r);
        helloBody("a kind alone", 50, r, Own.bytes(1));
        helloBody("a length cut", 50, r, Own.bytes(1, 0));
        helloBody("a FIELD beyond", 50, r, Own.bytes(1, 0, 2, 4));
        helloBody("another FIELD beyond", 50, r, Own.bytes(99, 0, 1));
        helloBody("VERSIONS of none", 50, r, Peer.field(1));
        helloBody("SUITES of none", 50, r, v, Peer.field(2));
        helloBody("GROUPS of none", 50, r, v, Peer.field(3));
        helloBody("SHARE of 4", 50, r, v, Peer.field(4, new byte[4]));
        helloBody("SHARE of 6", 50, r, v, Peer.field(4, new byte[6]));
        helloBody("SCHEMES of none", 50, r, v, Peer.field(5));
        helloBody("HOST of none", 50, r, v, Peer.field(6));
        helloBody("HOST no NAME", 50, r, v, Peer.field(6, Own.text("*.a.b")));
        helloBody("MODES of none", 50, r, v, Peer.field(7));
        helloBody("MODES 0", 50, r, v, Peer.field(7, Own.bytes(0)));
        helloBody("MODES 4", 50, r, v, Peer.field(7, Own.bytes(4)));
        helloBody("MODES of two", 50, r, v, Peer.field(7, Own.bytes(1, 1)));
        helloBody("EARLY with bytes", 50, r, v, Peer.field(8, Own.bytes(1)));
        helloBody("COOKIE of 7", 50, r, v, Peer.field(9, new byte[7]));
        helloBody("COOKIE of 9", 50, r, v, Peer.field(9, new byte[9]));
        helloBody("SHARED of nothing", 50, r, v, Peer.field(10));
        helloBody("SHARED of 0", 50, r, v, Peer.field(10, Own.bytes(0)));
        helloBody("an id of 0", 50, r, v, Peer.field(10, Own.bytes(1, 0), new byte[12]));
        helloBody("an id of 17", 50, r, v, Peer.field(10, Own.bytes(1, 17), new byte[29]));
        helloBody("an id of 16, no SUITES", 109, r, v, Peer.field(10, Own.bytes(1, 16), new byte[28]));
        helloBody("a BINDER cut", 50, r, v, Peer.field(10, Own.bytes(1, 16), new byte[27]));
        helloBody("a byte more", 50, r, v, Peer.field(10, Own.bytes(1, 16), new byte[29]));
        helloBody("a BINDER that lacks", 50, r, v, Peer.field(10, Own.bytes(2, 1, 7, 0, 0, 0, 0, 1, 7, 0, 0, 0, 0), new byte[8]));
        helloBody("an id that lacks", 50, r, v, Peer.field(10, Own.bytes(3, 1, 7, 0, 0, 0, 0), new byte[8]));
        helloBody("kinds do not rise", 47, r, Peer.field(2, Own.bytes(1)), v);
        helloBody("one twice", 47, r, v, v);
        helloBody("47 ahead of a cut", 47, r, v, Own.bytes(1));
        helloBody("47 ahead of 50", 47, r, Peer.field(2, Own.bytes(1)), Peer.field(1));
        helloBody("50 of an earlier one", 50, r, Peer.field(2), v);
        helloBody("behind SHARED", 47, r, v, Peer.field(10, Own.bytes(1, 16), new byte[28]), Peer.field(11));
        helloBody("behind SHARED, cut", 47, r, v, Peer.field(10, Own.bytes(1, 16), new byte[28]), Own.bytes(99));
        helloBody("others do not rise", 47, r, v, Peer.field(50), Peer.field(49));
        helloBody("an id of 1", 109, r, v, Peer.field(10, Own.bytes(1, 1, 7, 0, 0, 0, 0), new byte[8]));
        helloBody("another of 600 bytes", 109, r, v, Peer.field(11, new byte[600]));
        helloBody("one of 600 bytes", 109, r, v, Peer.field(5, new byte[600]));
        helloBody("others are passed over", 109, r, Peer.field(0), v, Peer.field(11), Peer.field(255, new byte[100]));
    }

    private static Peer hello(String what, int due, SecureLines x, List<Peer.Offered> offered,
            Consumer<TreeMap<Integer, byte[]>> change) {
        Peer peer = World.toServer(x);
        TreeMap<Integer, byte[]> fields = Peer.usualFields(1, 9);
        change.accept(fields);
        peer.send(1, peer.helloBody(5, fields, offered));
        if (due == 0) {
            Check.due(what + ": no ALERT", peer.told(6), -4);
        } else {
            peer.dueAlert(what, due);
            Check.due(what + ": messages", peer.told(13), 0);
            Check.due(what + ": SUITE", peer.told(1), 0);
        }
        return peer;
    }

    private static void helloFields() {
        hello("right", 0, World.both(), Peer.none(), f -> { });
        hello("no VERSIONS", 70, World.both(), Peer.none(), f -> f.remove(1));
        hello("VERSIONS without 4", 70, World.both(), Peer.none(), f -> f.put(1, Own.bytes(3, 5)));
        hello("VERSIONS with 4", 0, World.both(), Peer.none(), f -> f.put(1, Own.bytes(3, 4)));
        hello("70 ahead of 109", 70, World.both(), Peer.none(), f -> f.clear());
        hello("no SUITES", 109, World.both(), Peer.none(), f -> f.remove(2));
        hello("no SUITE in common", 40, World.both(), Peer.none(), f -> f.put(2, Own.bytes(0, 4)));
        hello("40 ahead of 109", 40, World.both(), Peer.none(), f -> {
            f.put(2, Own.bytes(9));
            f.remove(3);
        });
        hello("no GROUPS", 109, World.both(), Peer.none(), f -> f.remove(3));
        hello("no GROUPS ahead of no GROUP", 109, World.both(), Peer.none(), f -> {
            f.remove(3);
            f.remove(5);
        });
        hello("no GROUP in common", 40, World.both(), Peer.none(), f -> f.put(3, Own.bytes(0, 4)));
        hello("no GROUP ahead of no SCHEMES", 40, World.both(), Peer.none(), f -> {
            f.put(3, Own.bytes(4));
            f.remove(5);
        });
        hello("no SCHEMES", 109, World.both(), Peer.none(), f -> f.remove(5));
        hello("no SCHEME in common", 40, World.both(), Peer.none(), f -> f.put(5, Own.bytes(3)));
        SecureLines none = new SecureLines();
        none.end(0);
        none.end(1);
        hello("no IDENTITY", 40, none, Peer.none(), f -> { });
        hello("no SCHEMES ahead of no IDENTITY", 109, none, Peer.none(), f -> f.remove(5));
        hello("no IDENTITY ahead of RETRY", 40, none, Peer.none(), f -> f.remove(4));
        Peer retried = hello("RETRY without SHARE", 0, World.both(), Peer.none(), f -> f.remove(4));
        Check.due("messages", retried.told(13), 1);
        Check.due("SUITE", retried.told(1), 1);
        retried = hello("RETRY with SHARE of another GROUP", 0, World.both(), Peer.none(),
            f -> f.put(4, Own.bytes(2, 0, 0, 0, 5)));
        Check.due("a RETRY waits", retried.x.line(retried.c, 1, 3), 6);
        hello("EARLY without SHARED", 0, World.both(), Peer.none(), f -> f.put(8, Own.bytes()));
        hello("COOKIE without RETRY", 0, World.both(), Peer.none(), f -> f.put(9, new byte[8]));
        hello("MODES without SHARED", 0, World.both(), Peer.none(), f -> f.put(7, Own.bytes(1)));
    }

    private static SecureLines sharing() {
        SecureLines x = World.both();
        World.share(x, 1, "ab", 0, 6);
        return x;
    }

    private static SecureLines shortOnes() {
        SecureLines x = World.both();
        World.share(x, 1, "y", 0, 6);
        return x;
    }

    private static final Peer.Offered GOOD = new Peer.Offered(Own.text("ab"), 0, 6, 0);
    private static final Peer.Offered BAD = new Peer.Offered(Own.text("ab"), 0, 7, 0);
    private static final Peer.Offered STRANGE = new Peer.Offered(Own.text("abc"), 0, 6, 0);

    private static void helloShared() {
        hello("without MODES", 109, sharing(), Peer.of(GOOD), f -> { });
        hello("without MODES, not known", 109, sharing(), Peer.of(STRANGE), f -> { });
        hello("another BINDER", 51, sharing(), Peer.of(BAD), f -> f.put(7, Own.bytes(2)));
        hello("another BINDER of the second", 51, sharing(), Peer.of(STRANGE, BAD), f -> f.put(7, Own.bytes(2)));
        Peer right = hello("the first known counts", 0, sharing(), Peer.of(STRANGE, GOOD, BAD), f -> f.put(7, Own.bytes(2)));
        Check.due("used", right.told(4), 1);
        Check.due("CHOSEN", right.takeAnswer(9, 6).get(10)[0], 1);
        Peer.Offered short1 = new Peer.Offered(Own.text("x"), 0, 6, 0);
        Peer second = hello("two ids of one byte", 0, shortOnes(), Peer.of(short1,
            new Peer.Offered(Own.text("y"), 0, 6, 0)), f -> f.put(7, Own.bytes(2)));
        Check.due("the second is used", second.takeAnswer(9, 6).get(10)[0], 1);
        hello("not known: any BINDER", 0, sharing(), Peer.of(STRANGE), f -> f.put(7, Own.bytes(2)));
        hello("51 ahead of no GROUPS", 51, sharing(), Peer.of(BAD), f -> {
            f.put(7, Own.bytes(2));
            f.remove(3);
        });
        hello("no SUITE ahead of 51", 40, sharing(), Peer.of(BAD), f -> f.put(2, Own.bytes(9)));
        hello("of another h", 0, sharing(), Peer.of(BAD), f -> {
            f.put(2, Own.bytes(3));
            f.put(7, Own.bytes(2));
        });
        hello("51 though it may not be used", 51, sharing(), Peer.of(BAD), f -> f.put(7, Own.bytes(1)));
        hello("no GROUPS, MODES 2", 109, sharing(), Peer.of(GOOD), f -> {
            f.put(7, Own.bytes(2));
            f.remove(3);
        });
        hello("no GROUPS, MODES 3", 109, sharing(), Peer.of(GOOD), f -> {
            f.put(7, Own.bytes(3));
            f.remove(3);
        });
        hello("no GROUPS, MODES 1, SETTING 6 is 0", 40, sharing(), Peer.of(GOOD), f -> {
            f.put(7, Own.bytes(1));
            f.remove(3);
        });
        hello("no GROUPS, MODES 1, not known", 109, sharing(), Peer.of(STRANGE), f -> {
            f.put(7, Own.bytes(1));
            f.remove(3);
        });
        SecureLines x = sharing();
        x.setting(1, 6, 1);
        hello("no GROUPS, MODES 1, SETTING 6 is 1", 0, x, Peer.of(GOOD), f -> {
            f.put(7, Own.bytes(1));
            f.remove(3);
        });
        Peer without = hello("no GROUP in common, MODES 3", 0, x, Peer.of(GOOD), f -> {
            f.put(7, Own.bytes(3));
            f.put(3, Own.bytes(9));
        });
        Check.due("used without", without.told(4) * 10 + without.told(2), 10);
        hello("no GROUP in common, MODES 2", 40, x, Peer.of(GOOD), f -> {
            f.put(7, Own.bytes(2));
            f.put(3, Own.bytes(9));
        });
        hello("used: no SCHEMES are needed", 0, x, Peer.of(GOOD), f -> {
            f.put(7, Own.bytes(2));
            f.remove(5);
        });
        Peer retry = hello("used with RETRY", 0, x, Peer.of(GOOD), f -> {
            f.put(7, Own.bytes(2));
            f.remove(4);
            f.remove(5);
        });
        Check.due("a RETRY waits", retry.x.line(retry.c, 1, 3), 6);
    }

    /** A peer that got RETRY for GROUP 2 of SUITE 1, and the FIELDS with which it goes on. */
    private static Peer retried(SecureLines x, TreeMap<Integer, byte[]> fields, List<Peer.Offered> offered) {
        x.offer(1, 1, 2);
        Peer peer = World.toServer(x);
        peer.send(1, peer.helloBody(5, fields, offered));
        peer.suite = 1;
        peer.shorten();
        byte[] retry = peer.expect(6);
        fields.put(4, Own.cat(Own.bytes(2), Own.four(Own.point(2, 8))));
        fields.put(9, Own.part(retry, 8, 16));
        return peer;
    }

    private static void again(String what, int due, Consumer<TreeMap<Integer, byte[]>> change) {
        TreeMap<Integer, byte[]> fields = Peer.usualFields(1, 9);
        fields.put(6, Own.text("h"));
        fields.put(7, Own.bytes(2));
        Peer peer = retried(World.both(), fields, Peer.none());
        change.accept(fields);
        peer.send(1, peer.helloBody(5, fields, Peer.none()));
        if (due == 0) {
            Check.due(what + ": no ALERT", peer.told(6), -4);
            Check.due(what + ": messages", peer.told(13), 2);
        } else {
            peer.dueAlert(what, due);
            Check.due(what + ": messages", peer.told(13), 1);
        }
    }

    private static void behindRetry() {
        again("right", 0, f -> { });
        again("no VERSIONS", 70, f -> f.remove(1));
        again("other VERSIONS", 47, f -> f.put(1, Own.bytes(4, 5)));
        again("other VERSIONS without 4", 70, f -> f.put(1, Own.bytes(5)));
        again("other SUITES", 47, f -> f.put(2, Own.bytes(1, 2)));
        again("no SUITES", 47, f -> f.remove(2));
        again("other GROUPS", 47, f -> f.put(3, Own.bytes(2, 1, 3)));
        again("no GROUPS", 47, f -> f.remove(3));
        again("other SCHEMES", 47, f -> f.put(5, Own.bytes(2, 1)));
        again("another HOST", 47, f -> f.put(6, Own.text("g")));
        again("no HOST", 47, f -> f.remove(6));
        again("other MODES", 47, f -> f.put(7, Own.bytes(3)));
        again("no MODES", 47, f -> f.remove(7));
        again("EARLY", 47, f -> f.put(8, Own.bytes()));
        again("no COOKIE", 47, f -> f.remove(9));
        again("another COOKIE", 47, f -> f.put(9, new byte[8]));
        again("no SHARE", 47, f -> f.remove(4));
        again("SHARE of another GROUP", 47, f -> f.put(4, Own.bytes(1, 0, 0, 0, 5)));
        again("SHARE 1", 47, f -> f.put(4, Own.bytes(2, 0, 0, 0, 1)));
        again("others may be others", 0, f -> f.put(77, Own.bytes(1)));
        TreeMap<Integer, byte[]> fields = Peer.usualFields(1, 9);
        Peer peer = retried(World.both(), fields, Peer.none());
        peer.send(1, peer.helloBody(6, fields, Peer.none()));
        peer.dueAlert("another RANDOM", 47);
        fields = Peer.usualFields(1, 9);
        peer = retried(World.both(), fields, Peer.none());
        peer.send(2);
        peer.dueAlert("no HELLO", 10);
        // a MODES that was not there
        fields = Peer.usualFields(1, 9);
        peer = retried(World.both(), fields, Peer.none());
        fields.put(7, Own.bytes(1));
        peer.send(1, peer.helloBody(5, fields, Peer.none()));
        peer.dueAlert("MODES that was not there", 47);
        // SHARED may change; its BINDER counts what was ahead
        fields = Peer.usualFields(1, 9);
        fields.put(7, Own.bytes(2));
        peer = retried(sharing(), fields, Peer.of(GOOD));
        peer.send(1, peer.helloBody(5, fields, Peer.of(STRANGE, GOOD)));
        Check.due("SHARED may be another", peer.told(4), 1);
        fields = Peer.usualFields(1, 9);
        fields.put(7, Own.bytes(2));
        peer = retried(sharing(), fields, Peer.of(GOOD));
        peer.transcript = new byte[0];
        peer.send(1, peer.helloBody(5, fields, Peer.of(GOOD)));
        Check.due("a BINDER of this HELLO alone", peer.told(6), 51);
        // a SHARED secret of the first HELLO alone is not used then
        fields = Peer.usualFields(1, 9);
        fields.put(7, Own.bytes(2));
        peer = retried(sharing(), fields, Peer.of(GOOD));
        peer.send(1, peer.helloBody(5, fields, Peer.none()));
        Check.due("none is used", peer.told(4) * 10 + peer.told(3), 1);
        fields = Peer.usualFields(1, 9);
        fields.put(7, Own.bytes(2));
        peer = retried(sharing(), fields, Peer.none());
        peer.send(1, peer.helloBody(5, fields, Peer.of(GOOD)));
        Check.due("one is used, without SCHEME", peer.told(4) * 10 + peer.told(3), 10);
        // the offers by then do not count, but the scheme does
        fields = Peer.usualFields(1, 9);
        SecureLines x = World.both();
        peer = retried(x, fields, Peer.none());
        x.offer(1, 0, 2);
        x.offer(1, 1, 3);
        peer.send(1, peer.helloBody(5, fields, Peer.none()));
        Check.due("SUITE and GROUP as RETRY told", peer.told(1) * 10 + peer.told(2), 12);
    }

    private static void joints() {
        int[] points = {0, 1, -1, Integer.MAX_VALUE, Integer.MAX_VALUE - 1};
        for (int point : points) {
            SecureLines x = World.both();
            World.random(x, 1, 1, 2, 3);
            Peer peer = hello("SHARE " + point, 47, x, Peer.none(), f -> f.put(4, Own.cat(Own.bytes(1), Own.four(point))));
            x.random(1);
            Check.due("RANDOM and x are drawn", x.random(1), 12);
            Check.due("no keys", peer.key(3), 0);
        }
        SecureLines x = World.both();
        World.random(x, 1, 1, 2, 3);
        hello("nothing is drawn", 40, x, Peer.none(), f -> f.put(5, Own.bytes(9)));
        Check.due("nothing is drawn", x.random(1), 24);
        hello("nothing is drawn for RETRY", 0, x, Peer.none(), f -> f.remove(4));
        Check.due("nothing is drawn for RETRY", x.random(1), 24);
    }

    private static void behind() {
        Peer peer = fresh();
        byte[] hello = usualHello(peer);
        given("a byte behind HELLO", peer, 10, peer.record(22, Own.cat(hello, new byte[1])));
        Check.due("it does not count", peer.told(13), 0);
        SecureLines x = World.both();
        World.random(x, 1, 1, 2, 3);
        peer = World.toServer(x);
        given("a byte behind HELLO", peer, 10, peer.record(22, Own.cat(hello, new byte[1])));
        Check.due("RANDOM and x are drawn", x.random(1), 12);
        peer = fresh();
        given("behind a HELLO that is wrong", peer, 70,
            peer.record(22, Own.cat(Peer.message(1, Own.secret(5)), new byte[1])));
        // behind a HELLO that RETRY follows the next one may begin
        x = World.both();
        x.offer(1, 1, 2);
        peer = World.toServer(x);
        given("behind a first HELLO", peer, 0, peer.record(22, Own.cat(hello, Own.part(hello, 0, 2))));
        Check.due("it counts", peer.told(13), 1);
        peer.give(peer.record(22, Own.part(hello, 2, hello.length)));
        peer.dueAlert("the next one without COOKIE", 47);
        // behind END
        peer = greeted(World.both());
        byte[] end = Peer.message(20, Own.secret(peer.end(peer.clientKey)));
        given("a byte behind END", peer, 10, peer.record(22, Own.cat(end, new byte[1])));
        Check.due("greeting no more", peer.told(0), 2);
        Check.due("messages", peer.told(13), 1);
        peer = greeted(World.both());
        end = Peer.message(20, Own.secret(5));
        given("51 ahead of it", peer, 51, peer.record(22, Own.cat(end, new byte[1])));
        peer = opened(World.both());
        given("a byte behind NEW KEYS", peer, 10, peer.record(22, Own.bytes(24, 0, 1, 0, 24)));
        // CHAIN and PROOF and END may stand in one record but for the last
        x = World.both();
        x.setting(1, 1, 1);
        peer = greeted(x);
        byte[] chain = Peer.message(11, Peer.chain(new byte[0]));
        peer.note(chain);
        end = Peer.message(20, Own.secret(peer.end(peer.clientKey)));
        given("CHAIN and END in one record", peer, 0, peer.record(22, Own.cat(chain, end)));
        Check.due("open", peer.told(0), 1);
        Check.due("messages", peer.told(13), 3);
    }

    private static Peer opened(SecureLines x) {
        Peer peer = greeted(x);
        peer.endAsClient();
        Check.due("open", peer.told(0), 1);
        return peer;
    }

    /** A peer that has a TICKET of SUITE 1, and greets by it with EARLY; the server takes so many early bytes. */
    private static Peer early(int allows) {
        SecureLines x = World.both();
        x.setting(1, 4, allows);
        Peer first = opened(x);
        byte[] ticket = first.expect(4);
        long secret = Own.derived(0, first.next, 't', 0);
        Peer peer = World.toServer(x);
        TreeMap<Integer, byte[]> fields = Peer.usualFields(1, 9);
        fields.put(7, Own.bytes(2));
        fields.put(8, Own.bytes());
        peer.send(1, peer.helloBody(5, fields, Peer.of(new Peer.Offered(Own.part(ticket, 8, 16), 0, secret, 0))));
        Check.due("EARLY is taken", peer.told(5), 1);
        peer.suite = 1;
        long key = Own.derived(0, Own.keyed(0, 0, Own.secret(secret)), 'e', peer.digest());
        Check.due("its key", peer.key(1), key);
        peer.takeAnswer(9, secret);
        Check.that("EARLY is told", peer.expect(8).length == 3);
        peer.takeServerEnd();
        peer.writeBy(key);
        return peer;
    }

    private static void earlyBytes() {
        Peer peer = early(10);
        peer.give(peer.record(23, new byte[4]), peer.record(23, new byte[6]), peer.record(23, new byte[0]));
        Check.due("ten of ten", peer.told(6), -4);
        Check.due("heard", peer.x.hear(peer.c, 1), 0);
        peer.give(peer.record(23, new byte[1]));
        peer.dueAlert("one more", 10);
        peer = early(10);
        given("eleven at once", peer, 10, peer.record(23, new byte[11]));
        Check.due("nothing is heard", peer.x.hear(peer.c, 1), -12);
        peer = early(10);
        peer.x.setting(1, 4, 11);
        given("the SETTING by then", peer, 0, peer.record(23, new byte[11]));
        peer = early(10);
        given("what does not open is not dropped", peer, 20, Own.bytes(23, 0, 9), new byte[9]);
        peer = early(10);
        given("END for EARLY'S END", peer, 10, peer.record(22, Peer.message(20, Own.secret(peer.end(peer.clientKey)))));
        peer = early(10);
        given("EARLY'S END with bytes", peer, 50, peer.record(22, Peer.message(5, new byte[1])));
        peer = early(10);
        given("a byte behind it", peer, 10, peer.record(22, Own.cat(Peer.message(5), new byte[1])));
        peer = early(10);
        peer.send(5);
        Check.due("the key then", peer.key(1), peer.clientKey);
        peer.writeBy(peer.clientKey);
        given("said behind EARLY'S END", peer, 10, peer.record(23, new byte[1]));
        peer = early(10);
        peer.send(5);
        peer.writeBy(peer.clientKey);
        peer.endAsClient();
        Check.due("open", peer.told(0), 1);
        Check.due("messages", peer.told(13), 3);
        // by the age that is told, with its sign
        int[][] ages = {{-2, 1}, {-3, 0}, {2, 1}, {3, 0}, {Integer.MIN_VALUE, 0}, {Integer.MAX_VALUE, 0}};
        for (int[] age : ages) {
            SecureLines x = World.both();
            x.setting(1, 4, 5);
            Peer first = opened(x);
            byte[] ticket = first.expect(4);
            long secret = Own.derived(0, first.next, 't', 0);
            TreeMap<Integer, byte[]> fields = Peer.usualFields(1, 9);
            fields.put(7, Own.bytes(2));
            fields.put(8, Own.bytes());
            Peer second = World.toServer(x);
            second.send(1, second.helloBody(5, fields,
                Peer.of(new Peer.Offered(Own.part(ticket, 8, 16), 0, secret, age[0]))));
            Check.due("age " + age[0], second.told(5), age[1]);
        }
        // only the first of SHARED, and only a TICKET
        SecureLines x = World.both();
        x.setting(1, 4, 5);
        World.share(x, 1, "ab", 0, 6);
        Peer first = opened(x);
        byte[] ticket = first.expect(4);
        long secret = Own.derived(0, first.next, 't', 0);
        Peer.Offered offered = new Peer.Offered(Own.part(ticket, 8, 16), 0, secret, 0);
        TreeMap<Integer, byte[]> fields = Peer.usualFields(1, 9);
        fields.put(7, Own.bytes(2));
        fields.put(8, Own.bytes());
        Peer second = World.toServer(x);
        second.send(1, second.helloBody(5, fields, Peer.of(STRANGE, offered)));
        Check.due("the second is used", second.told(4) * 10 + second.told(5), 20);
        second = World.toServer(x);
        second.send(1, second.helloBody(5, fields, Peer.of(GOOD, offered)));
        Check.due("no TICKET is used", second.told(4) * 10 + second.told(5), 10);
        second = World.toServer(x);
        second.send(1, second.helloBody(5, fields, Peer.of(offered, GOOD)));
        Check.due("the first is used", second.told(4) * 10 + second.told(5), 21);
        second = World.toServer(x);
        second.send(1, second.helloBody(5, fields, Peer.of(offered, GOOD)));
        Check.due("once", second.told(4) * 10 + second.told(5), 20);
    }

    private static Peer asked(int asks) {
        SecureLines x = World.both();
        x.setting(1, 1, asks);
        return greeted(x);
    }

    private static void chain(String what, int asks, int due, byte[] body) {
        Peer peer = asked(asks);
        peer.send(11, body);
        if (due == 0) {
            Check.due(what + ": no ALERT", peer.told(6), -4);
        } else {
            peer.dueAlert(what, due);
            Check.due(what + ": shown", peer.told(12), 0);
        }
    }

    private static void chains() {
        byte[] none = {};
        byte[] good = World.client();
        chain("right", 2, 0, Peer.chain(none, good));
        chain("with the ANCHOR", 2, 0, Peer.chain(none, good, World.root()));
        chain("no BODY", 1, 50, none);
        chain("n = 5", 1, 50, Peer.chain(none, good, good, good, good, good));
        chain("n alone", 1, 50, Own.bytes(0));
        chain("n and a byte", 1, 50, Own.bytes(0, 0));
        chain("n = 0", 1, 0, Own.bytes(0, 0, 0));
        chain("n = 0 and bytes behind", 1, 50, Own.bytes(0, 0, 0, 0));
        chain("beyond", 1, 50, Own.bytes(0, 0, 1));
        chain("n = 1 cut", 1, 50, Own.bytes(1, 0, 3, 1, 2));
        chain("n = 0, SETTING 1 is 2", 2, 116, Own.bytes(0, 0, 0));
        chain("no CERTIFICATE", 1, 42, Own.bytes(1, 0, 1, 5, 0, 0));
        chain("no bytes", 1, 42, Own.bytes(1, 0, 0, 0, 0));
        chain("the second is none", 1, 42, Peer.chain(none, good, Own.part(good, 0, good.length - 1)));
        chain("a STAPLE", 1, 50, Peer.chain(Cert.answer("root", 3, 0, 0, 9, 1, World.ROOT), good));
        chain("a STAPLE, n = 0", 1, 50, Peer.chain(Own.bytes(1)));
        chain("a STAPLE, n = 0, SETTING 1 is 2", 2, 116, Peer.chain(Own.bytes(1)));
        chain("no CERTIFICATE ahead of a STAPLE", 1, 42, Peer.chain(Own.bytes(1), Own.bytes(1)));
        chain("no such ANCHOR", 1, 48, Peer.chain(none, new Cert("cli", "other", 31).by(World.ROOT)));
        chain("another SIGNATURE", 1, 42, Peer.chain(none, new Cert("cli", "root", 31).by(31)));
        chain("a server's USES", 1, 46, Peer.chain(none, new Cert("cli", "root", 31).uses(1).by(World.ROOT)));
        chain("a FAULT in a NAME", 1, 42, Peer.chain(none, new Cert("cl!", "root", 31).by(World.ROOT)));
        chain("over", 1, 45, Peer.chain(none, new Cert("cli", "root", 31).times(3, 9).by(World.ROOT)));
        // n = 0: then no PROOF
        Peer peer = asked(1);
        peer.send(11, Own.bytes(0, 0, 0));
        peer.send(15, new byte[9]);
        peer.dueAlert("PROOF behind n = 0", 10);
        peer = asked(1);
        peer.send(11, Peer.chain(none, good));
        peer.send(20, Own.secret(peer.end(peer.clientKey)));
        peer.dueAlert("END for PROOF", 10);
        // the SETTING by then
        peer = asked(1);
        peer.x.setting(1, 1, 2);
        peer.send(11, Own.bytes(0, 0, 0));
        peer.dueAlert("SETTING 1 by then", 116);
        peer = asked(2);
        peer.x.setting(1, 1, 0);
        peer.send(11, Own.bytes(0, 0, 0));
        Check.due("SETTING 1 by then", peer.told(6), -4);
        // REVOKED by what is held, and STRICT
        peer = asked(1);
        Own.feed(peer.x, Cert.list("root", 1, 0, 9, 1, World.ROOT, 3));
        peer.x.list();
        peer.send(11, Peer.chain(none, good));
        peer.dueAlert("REVOKED", 44);
        peer = asked(1);
        peer.x.setting(1, 0, 1);
        peer.send(11, Peer.chain(none, good));
        peer.dueAlert("STRICT", 113);
    }

    private static void proofsAndEnds() {
        byte[] none = {};
        Peer peer = asked(1);
        peer.send(11, Peer.chain(none, World.client()));
        peer.send(15, Own.cat(peer.proof('C', 1, 31), new byte[1]));
        peer.dueAlert("PROOF of 10", 50);
        peer = asked(1);
        peer.send(11, Peer.chain(none, World.client()));
        peer.send(15, Own.cat(Own.bytes(3), new byte[8]));
        peer.dueAlert("SCHEME 3", 47);
        peer = asked(1);
        peer.send(11, Peer.chain(none, World.client()));
        peer.x.offer(1, 2, 1);
        peer.send(15, peer.proof('C', 2, 31));
        peer.dueAlert("a SCHEME that it does not OFFER", 47);
        peer = asked(1);
        peer.send(11, Peer.chain(none, World.client()));
        peer.send(15, peer.proof('S', 1, 31));
        peer.dueAlert("a server's PROOF", 51);
        peer = asked(1);
        peer.send(11, Peer.chain(none, World.client()));
        peer.send(15, peer.proof('C', 2, 32));
        peer.dueAlert("another KEY's PROOF", 51);
        peer = asked(1);
        peer.send(11, Peer.chain(none, World.client()));
        peer.send(15, peer.proof('C', 2, 31));
        peer.send(20, Own.secret(peer.end(peer.serverKey)));
        peer.dueAlert("another END", 51);
        peer = greeted(World.both());
        peer.send(20, new byte[7]);
        peer.dueAlert("END of 7", 50);
        peer = greeted(World.both());
        peer.send(20, new byte[9]);
        peer.dueAlert("END of 9", 50);
        peer = greeted(World.both());
        long digest = peer.digest();
        peer.send(20, new byte[8]);
        Check.due("THE DIGEST is without it", peer.key(7), digest);
        peer.dueAlert("END of 0s", 51);
    }

    private static void whenOpen() {
        int[] types = {1, 2, 4, 5, 6, 8, 11, 13, 15, 20, 99};
        for (int type : types) {
            Peer peer = opened(World.both());
            given("type " + type, peer, 10, peer.record(22, Own.bytes(type, 0, 0)));
        }
        Peer peer = opened(World.both());
        peer.send(24, Own.bytes(2));
        peer.dueAlert("NEW KEYS 2", 47);
        peer = opened(World.both());
        peer.send(24);
        peer.dueAlert("NEW KEYS of none", 50);
        peer = opened(World.both());
        peer.send(24, Own.bytes(0, 0));
        peer.dueAlert("NEW KEYS of two", 50);
        peer = opened(World.both());
        peer.expect(4);
        peer.send(24, Own.bytes(1));
        Check.due("NEW KEYS 0 come", peer.expect(24)[0], 0);
        peer.readBy(Own.derived(0, peer.readKey, 'u', 0));
        peer.writeBy(Own.derived(0, peer.writeKey, 'u', 0));
        peer.give(peer.record(23, Own.bytes(1, 2)), peer.sealed(Own.bytes(23)));
        Check.due("heard", peer.x.hear(peer.c, 1), 1);
        Check.due("heard", peer.x.hear(peer.c, 1), 2);
        Check.due("not more", peer.x.hear(peer.c, 1), -10);
        Check.due("read", peer.told(11), 2);
        peer.x.feed(1, 77);
        peer.x.say(peer.c, 1);
        peer.nextMessage();
        Check.due("said", Own.digest(0, peer.said), Own.digest(0, Own.bytes(77)));
        // a message in parts, with said bytes between
        byte[] keys = Peer.message(24, Own.bytes(0));
        peer.give(peer.record(22, Own.part(keys, 0, 2)), peer.record(23, Own.bytes(9)),
            peer.record(22, Own.part(keys, 2, 4)));
        Check.due("between parts", peer.x.hear(peer.c, 1), 9);
        Check.due("no ALERT", peer.told(6), -4);
        Check.due("from 0 on", peer.told(11), 0);
        // an ALERT that it put is sealed
        peer = opened(World.both());
        peer.x.close(peer.c, 1);
        peer.expect(4);
        Check.that("nothing else", peer.nextMessage() == null);
        Check.due("ALERT 0 came", peer.alert, 0);
        peer.give(Own.bytes(1, 1, 1));
        Check.due("the last one counts", peer.told(6), 10);
        Check.due("CLOSED", peer.told(8), 1);
        Check.due("ENDED", peer.told(0), 2);
    }
}
