import java.util.Arrays;
import java.util.List;
import java.util.TreeMap;

/** Promises 40 to 51 where nothing goes wrong: greetings, keys, what is said, TICKETS, EARLY, RETRY. */
public final class LinesTest {
    public static void main(String[] args) {
        connections();
        withCertificates();
        asked();
        rawClient();
        rawClientAsked();
        rawServer();
        rawServerAsks();
        retryByServer();
        retryToClient();
        sharedWithout();
        ticketsAndEarly();
        earlyToClient();
        earlyDropped();
        bookAndLife();
        saying();
        renewing();
        closing();
        rooms();
        exports();
        Check.end("LinesTest");
    }

    private static void connections() {
        SecureLines x = World.both();
        Check.due("both -1", x.connection(-1, -1), -1);
        Check.due("a server as client", x.connection(1, 1), -1);
        Check.due("a client as server", x.connection(0, 0), -1);
        Check.due("no end", x.connection(2, 1), -1);
        Check.due("no end", x.connection(0, 2), -1);
        Check.due("end -2", x.connection(-2, 1), -1);
        for (int i = 0; i < 12; i++) {
            Check.due("connection", x.connection(i % 3 == 0 ? -1 : 0, i % 3 == 1 ? -1 : 1), i);
        }
        Check.due("FULL", x.connection(0, 1), -3);
        Check.due("BAD ahead of FULL", x.connection(-1, -1), -1);
        Check.due("the caller's line", x.line(0, 0, -1), 0);
        Check.due("the caller's line", x.line(0, 0, 0), -1);
        Check.due("a HELLO waits", x.line(1, 0, -1), 43);
        Check.due("its kind", x.line(1, 0, 0), 22);
        Check.due("its type", x.line(1, 0, 3), 1);
        Check.due("line i 43", x.line(1, 0, 43), -1);
        Check.due("line i -2", x.line(1, 0, -2), -1);
        Check.due("line side 2", x.line(1, 2, -1), -1);
        Check.due("line side -1", x.line(1, -1, -1), -1);
        Check.due("line c 12", x.line(12, 0, -1), -1);
        Check.due("line c -1", x.line(-1, 0, -1), -1);
        Check.due("alter", x.alter(1, 0, 0, 255), 22 ^ 255);
        Check.due("alter", x.alter(1, 0, 0, 255), 22);
        Check.due("alter", x.alter(1, 0, 1, 1), 1);
        Check.due("alter", x.alter(1, 0, 1, 1), 0);
        Check.due("alter mask 0", x.alter(1, 0, 0, 0), -1);
        Check.due("alter mask 256", x.alter(1, 0, 0, 256), -1);
        Check.due("alter i 43", x.alter(1, 0, 43, 1), -1);
        Check.due("alter i -1", x.alter(1, 0, -1, 1), -1);
        Check.due("alter the caller's", x.alter(0, 0, 0, 1), -1);
        Check.due("bring n 0", x.bring(1, 0, 0), -1);
        Check.due("bring n 8001", x.bring(1, 0, 8001), -1);
        Check.due("bring side 2", x.bring(1, 2, 1), -1);
        Check.due("bring c 12", x.bring(12, 0, 1), -1);
        Check.due("bring of the caller's", x.bring(0, 0, 5), 0);
        Check.due("bring one", x.bring(1, 0, 1), 1);
        Check.due("it became OUT", x.out(-1), 1);
        Check.due("OUT", x.out(0), 22);
        Check.due("bring the rest", x.bring(1, 0, 8000), 42);
        Check.due("give to the caller", x.give(0, 0), -2);
        Check.due("give side 2", x.give(0, 2), -1);
        Check.due("give c 12", x.give(12, 0), -1);
        isNoneSuch(x, 0, 0);
        isNoneSuch(x, 1, 1);
        Check.due("told what 15", x.told(0, 1, 15), -1);
        Check.due("told what -1", x.told(0, 1, -1), -1);
        Check.due("key which 8", x.key(0, 1, 8), -1);
        Check.due("key which -1", x.key(0, 1, -1), -1);
        Check.due("key c 12", x.key(12, 1, 0), -1);
        int[] first = {0, 0, 0, 0, 0, 0, -4, -4, 0, 0, 0, 0, 0, 0, 0};
        for (int what = 0; what < 15; what++) {
            Check.due("told at first", x.told(2, 1, what), first[what]);
            Check.due("told at first", x.told(2, 0, what), first[what]);
        }
        for (int which = 0; which < 8; which++) {
            Check.due("key at first", x.key(2, 0, which), 0);
        }
        Check.due("say while greeting", x.say(2, 0), -2);
        Check.due("close while greeting", x.close(2, 0), -2);
        Check.due("renew while greeting", x.renew(2, 0, 0), -2);
        Check.due("export while greeting", x.export(2, 0), 0);
        Check.due("hear while greeting", x.hear(2, 0), -10);
    }

    /** The caller's side is asked for nothing; a refused export keeps THE TAPE. */
    private static void isNoneSuch(SecureLines x, int c, int side) {
        for (int what = 0; what < 15; what++) {
            Check.due("told of the caller", x.told(c, side, what), -1);
        }
        for (int which = 0; which < 9; which++) {
            Check.due("key of the caller", x.key(c, side, which), -1);
        }
        Check.due("hear of the caller", x.hear(c, side), -1);
        x.feed(2, 0x0102);
        Check.due("export of the caller", x.export(c, side), -1);
        Check.due("THE TAPE is kept", x.cut(0), 2);
    }

    private static void withCertificates() {
        SecureLines x = World.both();
        World.random(x, 0, 0x1111111111111111L, 0x1234567800000000L);
        World.random(x, 1, 0x2222222222222222L, 0x0765432100000000L, 77, 78);
        int c = x.connection(0, 1);
        World.carry(x, c);
        int[] client = {1, 1, 1, 1, 0, 0, -4, -4, 0, 0, 0, 1, 1, 6, 0};
        int[] server = {1, 1, 1, 1, 0, 0, -4, -4, 0, 0, 1, 0, 0, 2, 0};
        for (int what = 0; what < 15; what++) {
            Check.due("told(client, " + what + ")", x.told(c, 0, what), client[what]);
            Check.due("told(server, " + what + ")", x.told(c, 1, what), server[what]);
        }
        for (int which = 2; which < 8; which++) {
            Check.due("keys are alike", x.key(c, 0, which), x.key(c, 1, which));
            Check.that("keys are there", x.key(c, 0, which) != 0);
        }
        Check.due("writing and reading", x.key(c, 0, 0), x.key(c, 1, 1));
        Check.due("reading and writing", x.key(c, 0, 1), x.key(c, 1, 0));
        Check.due("a TICKET came", x.ticket(0, 0, 5), 1);
        Check.due("its LIFE", x.ticket(0, 0, 1), 60);
        Check.due("its SUITE", x.ticket(0, 0, 3), 1);
        Check.due("its h", x.ticket(0, 0, 0), 0);
        for (int suite = 1; suite <= 3; suite++) {
            for (int group = 1; group <= 3; group++) {
                SecureLines y = World.both();
                y.offer(1, 0, suite);
                y.offer(1, 1, group);
                y.offer(0, 2, 2);
                int d = y.connection(0, 1);
                World.carry(y, d);
                Check.due("open", y.told(d, 0, 0) + y.told(d, 1, 0), 2);
                Check.due("SUITE", y.told(d, 0, 1), suite);
                Check.due("GROUP", y.told(d, 0, 2), group);
                Check.due("SCHEME", y.told(d, 1, 3), 2);
                Check.due("with RETRY", y.told(d, 0, 13), group == 1 ? 6 : 7);
                Check.due("NEXT", y.key(d, 0, 6), y.key(d, 1, 6));
            }
        }
    }

    private static void asked() {
        for (int asks = 1; asks <= 2; asks++) {
            for (int has = 0; has <= 1; has++) {
                SecureLines x = World.both();
                x.setting(1, 1, asks);
                if (has == 1) {
                    World.clientIdentity(x);
                }
                int c = x.connection(0, 1);
                World.carry(x, c);
                boolean good = asks == 1 || has == 1;
                Check.due("server", x.told(c, 1, 0), good ? 1 : 2);
                Check.due("ALERT", x.told(c, 1, 6), good ? -4 : 116);
                Check.due("got", x.told(c, 0, 7), good ? -4 : 116);
                Check.due("shown", x.told(c, 1, 12), has);
                Check.due("messages", x.told(c, 1, 13), !good ? 1 : has == 1 ? 4 : 3);
                Check.due("a client's SCHEME is not told", x.told(c, 1, 3), 1);
            }
        }
        SecureLines x = World.both();
        World.clientIdentity(x);
        x.setting(1, 1, 1);
        x.offer(1, 2, 1);
        x.offer(0, 2, 0x0201);
        int c = x.connection(0, 1);
        World.carry(x, c);
        Check.due("the SCHEME told is its second", x.told(c, 1, 0), 1);
        SecureLines y = World.both();
        World.clientIdentity(y);
        y.setting(1, 1, 1);
        c = y.connection(0, 1);
        y.bring(c, 0, 8000);
        y.offer(0, 2, 2);
        y.bring(c, 1, 8000);
        Check.due("the server's PROOF is of another SCHEME", y.told(c, 0, 6), 47);
    }

    private static void dueKeys(Peer peer, long writing, long reading, long next, String when) {
        long[] due = {writing, reading, peer.early, peer.hand, peer.master, peer.export, next, peer.digest()};
        for (int which = 0; which < 8; which++) {
            Check.due(when + ": key " + which, peer.key(which), due[which]);
        }
    }

    /** A whole greeting by the caller as client, with certificates. */
    private static void rawClient() {
        for (int suite = 1; suite <= 3; suite++) {
            SecureLines x = World.both();
            World.random(x, 1, 0x0102030405060708L, 0x8765432101020304L, 0x1112131415161718L);
            Own.feed(x, Cert.answer("root", 2, 0, 0, 50, 1, World.ROOT));
            x.answer();
            Own.feed(x, Cert.answer("root", 2, 0, 0, 60, 1, 5));
            x.answer();
            Own.feed(x, Cert.answer("root", 3, 0, 0, 60, 1, World.ROOT));
            x.answer();
            Peer peer = World.toServer(x);
            TreeMap<Integer, byte[]> fields = Peer.usualFields(2, 4242);
            fields.put(2, Own.bytes(9, suite));
            fields.put(3, Own.bytes(77, 2));
            fields.put(200, Own.bytes(1, 2, 3));
            fields.put(0, Own.bytes());
            peer.send(1, peer.helloBody(5, fields, Peer.none()));
            byte[] answer = peer.expect(2);
            Check.due("RANDOM", Own.secretOf(answer, 0), 0x0102030405060708L);
            Check.due("SUITE", answer[8], suite);
            int number = 2 + (0x87654321 & 0x3fffffff);
            Check.that("SHARE alone", Arrays.equals(Own.part(answer, 9, answer.length),
                Peer.field(4, Own.bytes(2), Own.four(Own.point(2, number)))));
            peer.suite = suite;
            peer.makeHand(0, Own.joint(2, 4242, Own.point(2, number)));
            peer.readBy(peer.serverKey);
            peer.writeBy(peer.clientKey);
            Check.due("SEALED BEGINNING is empty", peer.expect(8).length, 0);
            byte[] staple = Cert.answer("root", 2, 0, 0, 60, 1, 5);
            Check.that("CHAIN", Arrays.equals(peer.expect(11), Peer.chain(staple, World.server())));
            byte[] due = peer.proof('S', 1, World.SERVER);
            Check.that("PROOF", Arrays.equals(peer.expect(15), due));
            peer.takeServerEnd();
            dueKeys(peer, peer.sayServer, peer.clientKey, 0, "behind the server's END");
            Check.due("greeting", peer.told(0), 0);
            Check.due("written", peer.told(10), 0);
            peer.endAsClient();
            Check.due("open", peer.told(0), 1);
            dueKeys(peer, peer.sayServer, peer.sayClient, peer.next, "behind the client's END");
            byte[] ticket = peer.expect(4);
            Check.due("LIFE", Own.fourOf(ticket, 0), 60);
            Check.due("EARLY", Own.fourOf(ticket, 4), 0);
            Check.due("id", Own.secretOf(ticket, 8), Own.derived(0, 0x0102030411121314L, 'n', 0));
            Check.due("its byte", ticket[16], 0);
            Check.due("its length", ticket.length, 17);
            Check.due("written", peer.told(10), 1);
            Check.due("messages", peer.told(13), 2);
        }
    }

    private static void rawClientAsked() {
        SecureLines x = World.both();
        x.setting(1, 1, 2);
        x.setting(1, 2, 3);
        x.setting(1, 4, 9);
        x.offer(1, 2, 0x0201);
        Peer peer = World.toServer(x);
        peer.send(1, peer.helloBody(5, Peer.usualFields(1, 99), Peer.none()));
        peer.takeAnswer(99, 0);
        peer.expect(8);
        Check.that("ASKING", Arrays.equals(peer.expect(13), Peer.field(5, Own.bytes(2, 1))));
        Check.that("CHAIN", Arrays.equals(peer.expect(11), Peer.chain(new byte[0], World.server())));
        byte[] due = peer.proof('S', 2, World.SERVER);
        Check.that("PROOF", Arrays.equals(peer.expect(15), due));
        Check.due("SCHEME", peer.told(3), 2);
        peer.takeServerEnd();
        peer.send(11, Peer.chain(new byte[0], World.client()));
        Check.due("shown", peer.told(12), 1);
        peer.send(15, peer.proof('C', 1, World.CLIENT));
        peer.endAsClient();
        Check.due("open", peer.told(0), 1);
        Check.due("messages", peer.told(13), 4);
        for (int i = 0; i < 3; i++) {
            byte[] ticket = peer.expect(4);
            Check.due("its byte", ticket[16], i);
            Check.due("EARLY", Own.fourOf(ticket, 4), 9);
            Check.due("id", Own.secretOf(ticket, 8), Own.derived(0, 0, 'n', i));
        }
    }

    private static void rawServer() {
        for (int suite = 1; suite <= 3; suite++) {
            SecureLines x = World.both();
            World.random(x, 0, 0x0102030405060708L, 0xc765432101020304L);
            Own.feed(x, Own.text("x.c.d"));
            x.host(0);
            Peer peer = World.toClient(x);
            Check.due("RANDOM", Own.secretOf(peer.hello, 0), 0x0102030405060708L);
            int number = 2 + (0xc7654321 & 0x3fffffff);
            TreeMap<Integer, byte[]> fields = Peer.usualFields(1, number);
            fields.put(6, Own.text("x.c.d"));
            Check.that("HELLO", Arrays.equals(peer.hello, peer.helloBody(0x0102030405060708L, fields, Peer.none())));
            peer.answer(suite, 555, -1, 0);
            Check.due("SUITE", peer.told(1), suite);
            Check.due("GROUP", peer.told(2), 1);
            peer.readBy(peer.clientKey);
            dueKeys(peer, peer.clientKey, peer.serverKey, 0, "behind ANSWER");
            peer.send(8);
            peer.send(11, Peer.chain(Cert.answer("root", 2, 0, 0, 9, 1, World.ROOT), World.server()));
            Check.due("shown", peer.told(12), 1);
            Check.due("SCHEME ahead of PROOF", peer.told(3), 0);
            peer.send(15, peer.proof('S', 2, World.SERVER));
            Check.due("SCHEME", peer.told(3), 2);
            Check.due("greeting", peer.told(0), 0);
            peer.endAsServer();
            Check.due("open", peer.told(0), 1);
            peer.takeClientEnd();
            dueKeys(peer, peer.sayClient, peer.sayServer, peer.next, "open");
            x.tick(3);
            peer.send(4, Own.four(7), Own.four(-1), Own.secret(0x6162636465666768L), Own.bytes(200));
            Check.due("LIFE", x.ticket(0, 0, 1), 7);
            Check.due("EARLY", x.ticket(0, 0, 2), -1);
            Check.due("SUITE", x.ticket(0, 0, 3), suite);
            Check.due("came", x.ticket(0, 0, 4), 3);
            Check.due("a TICKET", x.ticket(0, 0, 5), 1);
            Check.due("OUT is the id", x.out(-1), 8);
            Check.due("OUT is the id", x.out(7), 0x68);
            x.tick(4);
            Peer again = World.toClient(x);
            long secret = Own.derived(peer.h(), peer.next, 't', 200);
            fields = again.helloFields;
            Check.due("MODES", fields.get(7)[0], 2);
            byte[] shared = fields.get(10);
            Check.due("age", Own.fourOf(shared, 10), 4);
            int to = again.hello.length - 8;
            byte[] counted = Own.cat(Own.bytes(1), Own.two(again.hello.length), Own.part(again.hello, 0, to));
            Check.due("BINDER", Own.secretOf(again.hello, to), Peer.binder(peer.h(), secret, counted));
            again.answer(suite, 17, 0, secret);
            Check.due("a TICKET is used", again.told(4), 2);
            again.send(8);
            again.endAsServer();
            again.takeClientEnd();
            Check.due("open", again.told(0), 1);
            Check.due("no SCHEME", again.told(3), 0);
        }
    }

    private static void rawServerAsks() {
        SecureLines x = World.both();
        World.clientIdentity(x);
        x.offer(0, 2, 0x0102);
        Peer peer = World.toClient(x);
        peer.answer(2, 555, -1, 0);
        peer.send(8);
        peer.send(13, Peer.field(5, Own.bytes(9, 2, 1)));
        peer.send(11, Peer.chain(new byte[0], World.server(), World.root()));
        Check.due("shown", peer.told(12), 2);
        peer.send(15, peer.proof('S', 1, World.SERVER));
        peer.endAsServer();
        Check.that("CHAIN", Arrays.equals(peer.expect(11), Peer.chain(new byte[0], World.client())));
        byte[] due = peer.proof('C', 1, World.CLIENT);
        Check.that("PROOF", Arrays.equals(peer.expect(15), due));
        peer.takeClientEnd();
        dueKeys(peer, peer.sayClient, peer.sayServer, peer.next, "open");
        // the second SCHEME alone was told
        SecureLines w = World.both();
        World.clientIdentity(w);
        Peer only = World.toClient(w);
        only.answer(2, 555, -1, 0);
        only.send(8);
        only.send(13, Peer.field(5, Own.bytes(9, 2)));
        only.send(11, Peer.chain(new byte[0], World.server()));
        only.send(15, only.proof('S', 1, World.SERVER));
        only.endAsServer();
        Check.that("CHAIN", Arrays.equals(only.expect(11), Peer.chain(new byte[0], World.client())));
        due = only.proof('C', 2, World.CLIENT);
        Check.that("PROOF", Arrays.equals(only.expect(15), due));
        // without a SCHEME that was told, and without an IDENTITY
        for (int way = 0; way < 2; way++) {
            SecureLines y = World.both();
            if (way == 0) {
                World.clientIdentity(y);
            }
            Peer other = World.toClient(y);
            other.answer(1, 555, -1, 0);
            other.send(8);
            other.send(13, Peer.field(5, Own.bytes(way == 0 ? 9 : 1)));
            other.send(11, Peer.chain(new byte[0], World.server()));
            other.send(15, other.proof('S', 1, World.SERVER));
            other.endAsServer();
            Check.that("an empty CHAIN", Arrays.equals(other.expect(11), Peer.chain(new byte[0])));
            other.takeClientEnd();
            Check.due("open", other.told(0), 1);
        }
    }

    private static void retryByServer() {
        for (int suite = 1; suite <= 3; suite++) {
            SecureLines x = World.both();
            World.share(x, 1, "ab", Own.hashOf(suite), 6);
            x.offer(1, 1, 0x0302);
            x.offer(1, 0, suite);
            Peer peer = World.toServer(x);
            TreeMap<Integer, byte[]> fields = Peer.usualFields(1, 99);
            fields.put(7, Own.bytes(2));
            fields.put(6, Own.text("q"));
            List<Peer.Offered> offered = Peer.of(new Peer.Offered(Own.text("zz"), 0, 1, 0),
                new Peer.Offered(Own.text("ab"), Own.hashOf(suite), 6, 0));
            byte[] body = peer.helloBody(5, fields, offered);
            peer.send(1, body);
            peer.suite = suite;
            peer.shorten();
            byte[] retry = peer.expect(6);
            long cookie = Own.derived(0, 0, 'k', Own.digest(0, body));
            Check.that("RETRY", Arrays.equals(retry, Own.cat(Own.bytes(suite), Peer.field(3, Own.bytes(3)),
                Peer.field(9, Own.secret(cookie)))));
            Check.due("SUITE", peer.told(1), suite);
            Check.due("GROUP", peer.told(2), 0);
            Check.due("messages", peer.told(13), 1);
            Check.due("THE DIGEST", peer.key(7), peer.digest());
            Check.due("no key", peer.key(0), 0);
            fields.put(4, Own.cat(Own.bytes(3), Own.four(Own.point(3, 98))));
            fields.put(9, Own.secret(cookie));
            x.offer(1, 0, 0x030201);
            peer.send(1, peer.helloBody(5, fields, offered));
            TreeMap<Integer, byte[]> answer = peer.takeAnswer(98, 6);
            Check.due("CHOSEN", answer.get(10)[0], 1);
            Check.due("the SUITE that RETRY told", peer.told(1), suite);
            Check.due("GROUP", peer.told(2), 3);
            Check.due("one is used", peer.told(4), 1);
            peer.expect(8);
            peer.takeServerEnd();
            peer.endAsClient();
            Check.due("open", peer.told(0), 1);
            Check.due("messages", peer.told(13), 3);
            dueKeys(peer, peer.sayServer, peer.sayClient, peer.next, "open");
        }
    }

    private static void retryToClient() {
        for (int way = 0; way < 4; way++) {
            SecureLines x = World.both();
            World.share(x, 0, "ab", 0, 6);
            World.share(x, 0, "cd", 1, 7);
            World.random(x, 0, 0x0102030405060708L, 0x0000001100000012L);
            x.setting(0, 5, way & 1);
            x.setting(0, 6, 1);
            Own.feed(x, Own.text("a.b"));
            x.host(0);
            Peer peer = World.toClient(x);
            Check.due("both are offered", peer.helloFields.get(10)[0], 2);
            Check.due("SHARE by SETTING 5", peer.helloFields.containsKey(4) ? 1 : 0, way & 1);
            x.setting(0, 6, 0);
            x.setting(0, 5, 0);
            x.forget(0, 0);
            peer.suite = way < 2 ? 3 : 2;
            peer.shorten();
            byte[] cookie = way == 1 ? new byte[0] : Peer.field(9, Own.secret(0x1122334455667788L));
            peer.send(6, Own.bytes(peer.suite), Peer.field(3, Own.bytes(3)), cookie);
            Check.due("SUITE", peer.told(1), peer.suite);
            byte[] first = peer.hello;
            peer.takeHello();
            Check.due("THE DIGEST", peer.key(7), peer.digest());
            int number = 2 + ((way & 1) == 1 ? 0x12 : 0x11);
            TreeMap<Integer, byte[]> fields = Peer.usualFields(3, number);
            fields.put(6, Own.text("a.b"));
            fields.put(7, Own.bytes(3));
            if (way != 1) {
                fields.put(9, Own.secret(0x1122334455667788L));
            }
            List<Peer.Offered> offered = Peer.of(way < 2 ? new Peer.Offered(Own.text("cd"), 1, 7, 0)
                : new Peer.Offered(Own.text("ab"), 0, 6, 0));
            byte[] transcript = peer.transcript;
            peer.transcript = Own.part(transcript, 0, transcript.length - peer.hello.length - 3);
            Check.that("HELLO anew", Arrays.equals(peer.hello, peer.helloBody(0x0102030405060708L, fields, offered)));
            peer.transcript = transcript;
            Check.that("another HELLO", !Arrays.equals(first, peer.hello));
            peer.answer(peer.suite, 44, 0, way < 2 ? 7 : 6);
            peer.send(8);
            peer.endAsServer();
            peer.takeClientEnd();
            Check.due("open", peer.told(0), 1);
            Check.due("one is used", peer.told(4), 1);
            Check.due("messages", peer.told(13), 4);
            dueKeys(peer, peer.sayClient, peer.sayServer, peer.next, "open");
        }
        // none of the SUITE's h: no such FIELD, but MODES stays
        SecureLines x = World.both();
        World.share(x, 0, "cd", 1, 7);
        Peer peer = World.toClient(x);
        peer.suite = 1;
        peer.shorten();
        peer.send(6, Own.bytes(1), Peer.field(3, Own.bytes(2)));
        peer.takeHello();
        Check.that("no SHARED", !peer.helloFields.containsKey(10));
        Check.due("MODES", peer.helloFields.get(7)[0], 2);
    }

    private static void sharedWithout() {
        // a HELLO bears those alone whose h is that of one of its SUITES
        SecureLines x = World.both();
        World.share(x, 0, "ab", 0, 6);
        x.offer(0, 0, 3);
        Check.that("no SHARED", !World.toClient(x).helloFields.containsKey(7));
        x.offer(0, 0, 1);
        Check.that("SHARED", World.toClient(x).helloFields.containsKey(7));
        // without exchange: only if both have SETTING 6
        for (int way = 0; way < 4; way++) {
            SecureLines y = World.both();
            World.share(y, 0, "ab", 0, 6);
            World.share(y, 1, "ab", 1, 5);
            World.share(y, 1, "ab", 0, 6);
            y.setting(0, 6, way & 1);
            y.setting(1, 6, way >> 1);
            y.offer(1, 1, 3);
            y.offer(0, 1, 1);
            int c = y.connection(0, 1);
            World.carry(y, c);
            if (way == 3) {
                Check.due("open without exchange", y.told(c, 0, 0) + y.told(c, 1, 0), 2);
                Check.due("no GROUP", y.told(c, 0, 2) + y.told(c, 1, 2), 0);
                Check.due("one is used", y.told(c, 0, 4) + y.told(c, 1, 4), 2);
                Check.due("HAND", y.key(c, 0, 3), y.key(c, 1, 3));
                Check.due("the EARLY key", y.key(c, 0, 2), Own.keyed(0, 0, Own.secret(6)));
                Check.due("HAND", y.key(c, 0, 3), Own.keyed(0, Own.derived(0, y.key(c, 0, 2), 'd', 0), Own.secret(0)));
            } else {
                Check.due("no GROUP in common", y.told(c, 1, 6), 40);
            }
        }
        // not used: then with certificates
        SecureLines z = World.both();
        World.share(z, 1, "ab", 0, 6);
        Peer peer = World.toServer(z);
        TreeMap<Integer, byte[]> fields = Peer.usualFields(1, 9);
        fields.put(7, Own.bytes(1));
        peer.send(1, peer.helloBody(5, fields, Peer.of(new Peer.Offered(Own.text("ab"), 0, 6, 0))));
        Check.that("no CHOSEN", !peer.takeAnswer(9, 0).containsKey(10));
        Check.due("not used", peer.told(4), 0);
        Check.due("GROUP", peer.told(2), 1);
        // with MODES 3 and a GROUP in common: with exchange
        z.setting(1, 6, 1);
        Peer other = World.toServer(z);
        fields.put(7, Own.bytes(3));
        other.send(1, other.helloBody(5, fields, Peer.of(new Peer.Offered(Own.text("ab"), 0, 6, 0))));
        Check.that("SHARE", other.takeAnswer(9, 6).containsKey(4));
        Check.due("GROUP", other.told(2), 1);
        // with MODES 1, no GROUPS and no SCHEMES
        Peer third = World.toServer(z);
        fields.put(7, Own.bytes(1));
        fields.remove(3);
        fields.remove(5);
        third.send(1, third.helloBody(5, fields, Peer.of(new Peer.Offered(Own.text("ab"), 0, 6, 0))));
        Check.that("no SHARE", !third.takeAnswer(9, 6).containsKey(4));
        third.expect(8);
        third.takeServerEnd();
        third.endAsClient();
        Check.due("open", third.told(0), 1);
    }

    private static SecureLines withTicket(int early) {
        SecureLines x = World.both();
        x.setting(1, 4, early);
        World.random(x, 0, 0x0a0b0c0d0e0f1011L, 0x1212121212121212L);
        World.random(x, 1, 0x1a1b1c1d1e1f1011L, 0x2212121212121212L);
        x.tick(500);
        int c = x.connection(0, 1);
        World.carry(x, c);
        Check.due("a TICKET", x.ticket(0, 0, 5), 1);
        return x;
    }

    private static void ticketsAndEarly() {
        // the same client takes it up again, by records that are really carried
        SecureLines x = withTicket(300);
        Check.due("it allows", x.ticket(0, 0, 2), 300);
        Own.feed(x, new byte[250]);
        x.early(0);
        int c = x.connection(0, 1);
        Check.due("the key for early bytes", x.key(c, 0, 0) == 0 ? 0 : 1, 1);
        Check.due("two records", x.told(c, 0, 10), 2);
        long key = x.key(c, 0, 0);
        x.bring(c, 0, 8000);
        Check.due("EARLY is taken", x.told(c, 1, 5), 1);
        Check.due("the server reads by it", x.key(c, 1, 1), key);
        Check.due("two were read", x.told(c, 1, 11), 2);
        Check.due("heard ahead of END", x.hear(c, 1), 0);
        x.bring(c, 1, 8000);
        Check.due("EARLY is taken", x.told(c, 0, 5), 1);
        Check.due("the client is open", x.told(c, 0, 0), 1);
        x.bring(c, 0, 8000);
        Check.due("the server is open", x.told(c, 1, 0), 1);
        Check.due("messages", x.told(c, 1, 13), 3);
        Check.due("a TICKET is used", x.told(c, 0, 4) + x.told(c, 1, 4), 4);
        Check.due("EARLY of keys", x.key(c, 1, 2), x.key(c, 0, 2));
        World.carry(x, c);
        Check.due("early bytes are gone", x.ticket(0, 1, 5), 1);
        // its EARLY was taken: not another time
        Own.feed(x, new byte[10]);
        x.early(0);
        c = x.connection(0, 1);
        x.bring(c, 0, 8000);
        Check.due("not taken again", x.told(c, 1, 5), 0);
        Check.due("a TICKET is used", x.told(c, 1, 4), 2);
        Check.due("dropped", x.told(c, 1, 14), 19);
        World.carry(x, c);
        Check.due("open", x.told(c, 0, 0) + x.told(c, 1, 0), 2);
        Check.due("not taken", x.told(c, 0, 5), 0);
        // no early bytes were given
        c = x.connection(0, 1);
        Check.due("no key", x.key(c, 0, 0), 0);
        SecureLines one = withTicket(1);
        c = one.connection(0, 1);
        one.bring(c, 0, 8000);
        Check.due("none were given: not taken", one.told(c, 1, 5), 0);
        one.feed(1, 7);
        one.early(0);
        c = one.connection(0, 1);
        one.bring(c, 0, 8000);
        Check.due("one byte of one", one.told(c, 1, 5), 1);
        Check.due("heard", one.hear(c, 1), 7);
        // the first is no TICKET that allows as many
        SecureLines y = withTicket(30);
        Own.feed(y, new byte[31]);
        y.early(0);
        c = y.connection(0, 1);
        Check.due("31 do not go", y.key(c, 0, 0), 0);
        c = y.connection(0, 1);
        Check.due("and are gone", y.key(c, 0, 0), 0);
        Own.feed(y, new byte[30]);
        y.early(0);
        c = y.connection(0, 1);
        Check.that("30 go", y.key(c, 0, 0) != 0);
        // a TICKET behind another secret
        SecureLines z = World.both();
        z.setting(1, 4, 30);
        World.share(z, 0, "ab", 0, 4);
        World.carry(z, z.connection(0, 1));
        Check.due("the second is a TICKET", z.ticket(0, 1, 5), 1);
        Own.feed(z, new byte[3]);
        z.early(0);
        c = z.connection(0, 1);
        Check.due("no EARLY", z.key(c, 0, 0), 0);
        // by time
        int[][] off = {{0, 2, 1}, {0, 3, 0}, {9, 11, 1}, {50, 53, 0}};
        for (int[] way : off) {
            SecureLines w = withTicket(30);
            w.tick(way[0]);
            Own.feed(w, new byte[3]);
            w.early(0);
            c = w.connection(0, 1);
            w.tick(way[1] - way[0]);
            w.bring(c, 0, 8000);
            Check.due("EARLY by the WINDOW", w.told(c, 1, 5), way[2]);
            World.carry(w, c);
            Check.due("open", w.told(c, 0, 0) + w.told(c, 1, 0), 2);
        }
        // SETTING 4 is 0 by then
        SecureLines v = withTicket(30);
        Own.feed(v, new byte[3]);
        v.early(0);
        v.setting(1, 4, 0);
        c = v.connection(0, 1);
        v.bring(c, 0, 8000);
        Check.due("not taken", v.told(c, 1, 5), 0);
        // the SUITE is another one of the same h
        SecureLines u = withTicket(30);
        Own.feed(u, new byte[3]);
        u.early(0);
        u.offer(1, 0, 2);
        c = u.connection(0, 1);
        u.bring(c, 0, 8000);
        Check.due("not taken", u.told(c, 1, 5), 0);
        Check.due("but used", u.told(c, 1, 4), 2);
        World.carry(u, c);
        Check.due("open", u.told(c, 0, 0) + u.told(c, 1, 0), 2);
        // RETRY was put
        SecureLines t = withTicket(30);
        Own.feed(t, new byte[3]);
        t.early(0);
        t.offer(1, 1, 2);
        c = t.connection(0, 1);
        t.bring(c, 0, 8000);
        Check.due("dropped without a key", t.told(c, 1, 14), 12);
        t.bring(c, 1, 8000);
        Check.due("no key for writing", t.key(c, 0, 0), 0);
        Check.due("no number", t.told(c, 0, 10), 0);
        World.carry(t, c);
        Check.due("open", t.told(c, 0, 0) + t.told(c, 1, 0), 2);
        Check.due("not taken", t.told(c, 0, 5) + t.told(c, 1, 5), 0);
    }

    /** A client that holds one TICKET of a SUITE from the caller. */
    private static Peer clientWithTicket(int suite, int allows) {
        SecureLines x = World.both();
        Peer peer = World.toClient(x);
        peer.answer(suite, 5, -1, 0);
        peer.send(8);
        peer.send(11, Peer.chain(new byte[0], World.server()));
        peer.send(15, peer.proof('S', 1, World.SERVER));
        peer.endAsServer();
        peer.takeClientEnd();
        peer.send(4, Own.four(7), Own.four(allows), Own.secret(0x6162636465666768L), Own.bytes(1));
        return peer;
    }

    private static void earlyToClient() {
        for (int suite = 1; suite <= 3; suite++) {
            for (int taken = 0; taken <= 1; taken++) {
                Peer first = clientWithTicket(suite, 400);
                SecureLines x = first.x;
                long secret = Own.derived(first.h(), first.next, 't', 1);
                byte[] bytes = new byte[230];
                Arrays.fill(bytes, (byte) 7);
                Own.feed(x, bytes);
                x.early(0);
                Peer peer = World.toClient(x);
                Check.due("EARLY", peer.helloFields.get(8).length, 0);
                peer.suite = suite;
                long early = Own.keyed(peer.h(), 0, Own.secret(secret));
                long key = Own.derived(peer.h(), early, 'e', peer.digest());
                Check.due("its key", peer.key(0), key);
                Check.due("SUITE is not told yet", peer.told(1), 0);
                Check.due("EARLY is not told yet", peer.key(2), 0);
                peer.answer(suite, 6, 0, secret);
                Check.due("still its key", peer.key(0), key);
                Check.due("still its number", peer.told(10), 2);
                peer.readBy(key);
                peer.send(8, taken == 1 ? Peer.field(8) : new byte[0]);
                Check.due("EARLY is taken", peer.told(5), taken);
                Check.due("the key then", peer.key(0), taken == 1 ? key : peer.clientKey);
                byte[] text = peer.nextRecord();
                Check.due("a record of 200", text.length, 201);
                Check.due("said bytes", text[200], 23);
                Check.due("the rest", peer.nextRecord().length, 31);
                if (taken == 0) {
                    peer.readBy(peer.clientKey);
                }
                peer.endAsServer();
                if (taken == 1) {
                    Check.due("EARLY'S END", peer.expect(5).length, 0);
                    peer.readBy(peer.clientKey);
                }
                peer.takeClientEnd();
                Check.due("open", peer.told(0), 1);
                dueKeys(peer, peer.sayClient, peer.sayServer, peer.next, "open");
            }
        }
    }

    private static void earlyDropped() {
        // 600 bytes together may be dropped; one that opens ends it
        SecureLines x = World.both();
        Peer peer = World.toServer(x);
        TreeMap<Integer, byte[]> fields = Peer.usualFields(1, 9);
        fields.put(8, Own.bytes());
        peer.send(1, peer.helloBody(5, fields, Peer.none()));
        Check.due("the client's key for reading", peer.key(1), Own.derived(0, peer.key(3), 'c', Own.digest(0, transcriptOf(peer))));
        peer.give(Own.bytes(23, 1, 44), new byte[300]);
        Check.due("dropped", peer.told(14), 300);
        peer.give(Own.bytes(23, 1, 0), new byte[256]);
        Check.due("dropped", peer.told(14), 556);
        peer.give(Own.bytes(23, 0, 1), new byte[1]);
        Check.due("shorter than a TAG is dropped", peer.told(14), 557);
        Check.due("not read", peer.told(11), 0);
        peer.takeAnswer(9, 0);
        peer.expect(8);
        peer.expect(11);
        peer.expect(15);
        peer.takeServerEnd();
        peer.endAsClient();
        Check.due("open", peer.told(0), 1);
        peer.give(Own.bytes(23, 0, 9), new byte[9]);
        Check.due("not dropped any more", peer.told(6), 20);
        Check.due("dropped", peer.told(14), 557);
        // what would be more than 600 is not dropped
        SecureLines y = World.both();
        Peer other = World.toServer(y);
        other.send(1, other.helloBody(5, fields, Peer.none()));
        other.give(Own.bytes(23, 1, 44), new byte[300]);
        other.give(Own.bytes(23, 1, 44), new byte[300]);
        Check.due("600", other.told(14), 600);
        other.give(Own.bytes(23, 0, 1), new byte[1]);
        Check.due("one more", other.told(6), 20);
        // behind RETRY, without a key for reading
        SecureLines z = World.both();
        z.offer(1, 1, 2);
        Peer third = World.toServer(z);
        third.send(1, third.helloBody(5, fields, Peer.none()));
        third.give(Own.bytes(23, 1, 44), new byte[300]);
        Check.due("300", third.told(14), 300);
        third.give(Own.bytes(23, 0, 0));
        Check.due("without bytes", third.told(6), 50);
        Peer fourth = World.toServer(z);
        fourth.send(1, fourth.helloBody(5, fields, Peer.none()));
        fourth.give(Own.bytes(23, 1, 44), new byte[300]);
        fourth.give(Own.bytes(23, 1, 45), new byte[301]);
        Check.due("too long", fourth.told(6), 22);
        Peer fifth = World.toServer(z);
        fifth.send(1, fifth.helloBody(5, fields, Peer.none()));
        fifth.give(Own.bytes(23, 1, 44), new byte[300]);
        fifth.give(Own.bytes(23, 1, 44), new byte[300]);
        fifth.give(Own.bytes(23, 0, 1), new byte[1]);
        Check.due("one more without a key", fifth.told(6), 10);
        // without EARLY nothing is dropped
        Peer sixth = World.toServer(World.both());
        fields.remove(8);
        sixth.send(1, sixth.helloBody(5, fields, Peer.none()));
        sixth.give(Own.bytes(23, 0, 20), new byte[20]);
        Check.due("not dropped", sixth.told(6), 20);
    }

    /** What THE DIGEST behind ANSWER is of: HELLO and the ANSWER that waits. */
    private static byte[] transcriptOf(Peer peer) {
        peer.fetch();
        int n = (peer.inbox[1] & 255) << 8 | peer.inbox[2] & 255;
        return Own.cat(peer.transcript, Own.part(peer.inbox, 3, 3 + n));
    }

    private static void bookAndLife() {
        // a TICKET is known till its LIFE is over
        for (int age = 60; age <= 61; age++) {
            SecureLines x = withTicket(0);
            x.tick(age);
            int c = x.connection(0, 1);
            World.carry(x, c);
            Check.due("used by LIFE", x.told(c, 1, 4), age == 60 ? 2 : 0);
            Check.due("open", x.told(c, 0, 0) + x.told(c, 1, 0), 2);
        }
        // of 20 that are in the BOOK the eldest goes
        SecureLines book = World.both();
        book.setting(1, 2, 2);
        Peer giver = World.toServer(book);
        giver.send(1, giver.helloBody(5, Peer.usualFields(1, 9), Peer.none()));
        giver.takeAnswer(9, 0);
        giver.expect(8);
        giver.expect(11);
        giver.expect(15);
        giver.takeServerEnd();
        giver.endAsClient();
        long[] ids = {Own.secretOf(giver.expect(4), 8), Own.secretOf(giver.expect(4), 8)};
        book.setting(1, 2, 3);
        for (int i = 0; i < 6; i++) {
            World.carry(book, book.connection(0, 1));
        }
        TreeMap<Integer, byte[]> fields = Peer.usualFields(1, 9);
        fields.put(7, Own.bytes(2));
        Check.due("20 were given: the first", takenUp(book, giver, ids[0], 0, fields), 2);
        book.setting(1, 2, 1);
        World.carry(book, book.connection(0, 1));
        Check.due("21 were given: the first", takenUp(book, giver, ids[0], 0, fields), 0);
        Check.due("21 were given: the second", takenUp(book, giver, ids[1], 1, fields), 2);
        // the eldest of 20 goes
        SecureLines x = World.both();
        x.setting(1, 2, 3);
        int first = x.connection(0, 1);
        World.carry(x, first);
        Check.due("three came", x.ticket(0, 2, 5), 1);
        x.end(0);
        x.trust(2, 0);
        for (int i = 0; i < 5; i++) {
            World.carry(x, x.connection(2, 1));
        }
        Check.due("six are kept", x.ticket(2, 5, 5), 1);
        Check.due("no seventh", x.ticket(2, 6, 5), -1);
        int c = x.connection(0, 1);
        World.carry(x, c);
        Check.due("18 were given: known", x.told(c, 1, 4), 2);
        c = x.connection(0, 1);
        x.bring(c, 0, 8000);
        Check.due("21 were given: the second is known", x.told(c, 1, 4), 2);
        x.bring(c, 1, 8000);
        Check.due("the second", x.key(c, 0, 2), x.key(c, 1, 2));
        x.forget(0, 0);
        x.forget(0, 0);
        x.forget(0, 0);
        x.forget(0, 0);
        x.forget(0, 0);
        Check.due("one is left", x.forget(0, 0), 0);
    }

    /** What is used when a TICKET that the giver got is told to end 1. */
    private static int takenUp(SecureLines x, Peer giver, long id, int k, TreeMap<Integer, byte[]> fields) {
        Peer taker = World.toServer(x);
        long secret = Own.derived(0, giver.next, 't', k);
        taker.send(1, taker.helloBody(5, fields, Peer.of(new Peer.Offered(Own.secret(id), 0, secret, 0))));
        return taker.told(4);
    }

    private static int[] opened(SecureLines x) {
        int c = x.connection(0, 1);
        World.carry(x, c);
        Check.due("open", x.told(c, 0, 0) + x.told(c, 1, 0), 2);
        return new int[] {c};
    }

    private static void saying() {
        SecureLines x = World.both();
        int c = opened(x)[0];
        Check.due("say nothing", x.say(c, 0), 0);
        Check.due("nothing waits", x.line(c, 0, -1), 0);
        x.feed(3, 0x010203);
        Check.due("say", x.say(c, 0), 3);
        Check.due("taken", x.cut(0), 0);
        Check.due("a record", x.line(c, 0, -1), 3 + 3 + 1 + 8);
        Check.due("say c 9", x.say(9, 0), -1);
        Check.due("say side 2", x.say(c, 2), -1);
        Check.due("hear side 2", x.hear(c, 2), -1);
        Check.due("hear c 9", x.hear(9, 0), -1);
        Check.due("nothing is heard yet", x.hear(c, 1), -10);
        x.bring(c, 0, 14);
        Check.due("nor of a part", x.hear(c, 1), -10);
        x.bring(c, 0, 1);
        Check.due("hear", x.hear(c, 1), 1);
        Check.due("hear", x.hear(c, 1), 2);
        Check.due("hear", x.hear(c, 1), 3);
        Check.due("hear no more", x.hear(c, 1), -10);
        Own.feed(x, new byte[401]);
        Check.due("say 401", x.say(c, 1), 401);
        Check.due("three records", x.line(c, 1, -1), 401 + 3 * 12);
        Check.due("the last one's length", x.line(c, 1, 2 * 212 + 2), 10);
        Check.due("number of the next", x.told(c, 1, 10), 4);
        for (int i = 0; i < 2; i++) {
            Own.feed(x, new byte[800]);
            Check.due("say 800", x.say(c, 1), 800);
        }
        Check.due("above 2000 wait", x.line(c, 1, -1), 437 + 2 * 848);
        Check.due("say", x.say(c, 1), -3);
        Check.due("renew", x.renew(c, 1, 0), -3);
        Check.due("renew BAD", x.renew(c, 1, 2), -1);
        x.feed(1, 5);
        Check.due("say", x.say(c, 1), -3);
        Check.due("not taken", x.cut(0), 1);
        x.bring(c, 1, 133);
        Check.due("2000 wait", x.line(c, 1, -1), 2000);
        x.feed(1, 5);
        Check.due("say", x.say(c, 1), 1);
        World.carry(x, c);
        // 2002 bytes came, 2000 are kept
        Own.feed(x, new byte[800]);
        x.say(c, 1);
        World.carry(x, c);
        int count = 0;
        while (x.hear(c, 0) >= 0) {
            count++;
        }
        Check.due("kept till heard", count, 2000);
    }

    private static void renewing() {
        SecureLines x = World.both();
        int c = opened(x)[0];
        Check.due("ask 2", x.renew(c, 0, 2), -1);
        Check.due("ask -1", x.renew(c, 0, -1), -1);
        Check.due("side 2", x.renew(c, 2, 0), -1);
        long client = x.key(c, 0, 0);
        long server = x.key(c, 1, 0);
        Check.due("renew", x.renew(c, 0, 0), 1);
        Check.due("the next key", x.key(c, 0, 0), Own.derived(0, client, 'u', 0));
        Check.due("from 0 on", x.told(c, 0, 10), 0);
        x.bring(c, 0, 8000);
        Check.due("the next key", x.key(c, 1, 1), x.key(c, 0, 0));
        Check.due("from 0 on", x.told(c, 1, 11), 0);
        Check.due("not asked", x.key(c, 1, 0), server);
        Check.due("renew and ask", x.renew(c, 0, 1), 1);
        x.feed(1, 9);
        x.say(c, 0);
        x.bring(c, 0, 8000);
        Check.due("heard by the new key", x.hear(c, 1), 9);
        Check.due("asked", x.key(c, 1, 0), Own.derived(0, server, 'u', 0));
        Check.due("the client reads by the old one", x.key(c, 0, 1), server);
        World.carry(x, c);
        Check.due("the client reads by the new one", x.key(c, 0, 1), x.key(c, 1, 0));
        Check.due("messages", x.told(c, 1, 13), 4);
        Check.due("messages", x.told(c, 0, 13), 7);
        // one that CLOSED is asked, but does not
        Check.due("close", x.close(c, 1), 1);
        x.renew(c, 0, 1);
        server = x.key(c, 1, 0);
        int waits = x.line(c, 1, -1);
        x.bring(c, 0, 8000);
        Check.due("its key stays", x.key(c, 1, 0), server);
        Check.due("nothing is put", x.line(c, 1, -1), waits);
        Check.due("it reads by the new one", x.key(c, 1, 1), x.key(c, 0, 0));
    }

    private static void closing() {
        SecureLines x = World.both();
        int c = opened(x)[0];
        x.feed(1, 7);
        x.say(c, 0);
        Check.due("close side 2", x.close(c, 2), -1);
        Check.due("close c 9", x.close(9, 0), -1);
        Check.due("close", x.close(c, 0), 1);
        Check.due("close again", x.close(c, 0), -2);
        Check.due("say", x.say(c, 0), -2);
        Check.due("renew", x.renew(c, 0, 0), -2);
        Check.due("CLOSED", x.told(c, 0, 8), 1);
        Check.due("the ALERT put", x.told(c, 0, 6), 0);
        Check.due("still open", x.told(c, 0, 0), 1);
        World.carry(x, c);
        Check.due("the other one CLOSED", x.told(c, 1, 9), 1);
        Check.due("the ALERT got", x.told(c, 1, 7), 0);
        Check.due("what was said is heard", x.hear(c, 1), 7);
        Check.due("then", x.hear(c, 1), -11);
        x.feed(1, 8);
        Check.due("the other one says", x.say(c, 1), 1);
        World.carry(x, c);
        Check.due("and is heard", x.hear(c, 0), 8);
        Check.due("then", x.hear(c, 0), -10);
        // what comes behind is lost
        x.feed(8, -1);
        x.give(c, 1);
        Check.due("no ALERT", x.told(c, 1, 6), -4);
        Check.due("open", x.told(c, 1, 0), 1);
        // ENDED by the other one's ALERT
        x.feed(8, -1);
        x.give(c, 0);
        Check.due("ENDED", x.told(c, 0, 0), 2);
        Check.due("the last ALERT put", x.told(c, 0, 6), 10);
        Check.due("hear", x.hear(c, 0), -12);
        World.carry(x, c);
        Check.due("lost: it CLOSED before", x.told(c, 1, 7), 0);
        Check.due("close by one that ENDED", x.close(c, 0), -2);
        // a RAW one
        SecureLines y = World.both();
        int d = y.connection(-1, 1);
        Check.due("say as the caller", y.say(d, 0), -2);
        Check.due("close as the caller", y.close(d, 0), -2);
        Check.due("renew as the caller", y.renew(d, 0, 0), -2);
        Check.due("renew as the caller, BAD", y.renew(d, 0, 3), -1);
        y.feed(4, 0x15000100L);
        y.give(d, 1);
        Check.due("CLOSED while greeting", y.told(d, 1, 9), 1);
        Check.due("still greeting", y.told(d, 1, 0), 0);
        Check.due("hear", y.hear(d, 1), -11);
        y.feed(8, -1);
        Check.due("lost", y.give(d, 1), 0);
        Check.due("greeting", y.told(d, 1, 0), 0);
    }

    private static void rooms() {
        SecureLines x = World.both();
        int c = opened(x)[0];
        // 2000 and more wait on the server's line, then give
        Own.feed(x, new byte[800]);
        x.say(c, 1);
        Own.feed(x, new byte[800]);
        x.say(c, 1);
        Own.feed(x, new byte[280]);
        x.say(c, 1);
        Check.due("2000 wait", x.line(c, 1, -1), 2000);
        Check.due("give", x.give(c, 1), 2000);
        x.feed(1, 5);
        x.say(c, 1);
        Check.due("give", x.give(c, 1), -3);
        x.feed(1, 5);
        Check.due("give", x.give(c, 1), -3);
        Check.due("not taken", x.cut(0), 1);
        // the only ANSWER that is held is the STAPLE
        SecureLines v = World.both();
        byte[] staple = Cert.answer("root", 2, 0, 0, 50, 1, World.ROOT);
        Own.feed(v, staple);
        v.answer();
        Peer stapled = World.toServer(v);
        stapled.send(1, stapled.helloBody(5, Peer.usualFields(1, 9), Peer.none()));
        stapled.takeAnswer(9, 0);
        stapled.expect(8);
        Check.that("STAPLE", Arrays.equals(stapled.expect(11), Peer.chain(staple, World.server())));
        // exactly 2001 wait
        SecureLines w = World.both();
        int d = opened(w)[0];
        for (int i = 0; i < 3; i++) {
            Own.feed(w, new byte[i < 2 ? 800 : 281]);
            w.say(d, 1);
        }
        Check.due("2001 wait", w.line(d, 1, -1), 2001);
        Check.due("say", w.say(d, 1), -3);
        Check.due("give", w.give(d, 1), -3);
        for (int i = 0; i < 125; i++) {
            w.renew(d, 0, 1);
        }
        Check.due("bring", w.bring(d, 0, 8000), 2000);
        Check.due("4001 wait", w.line(d, 1, -1), 4001);
        Check.due("bring", w.bring(d, 0, 1), -3);
        // more than 4000 wait on the other one's line, then bring
        Peer peer = World.toServer(x);
        peer.send(1, peer.helloBody(5, Peer.usualFields(1, 9), Peer.none()));
        SecureLines y = World.both();
        c = opened(y)[0];
        for (int i = 0; i < 3; i++) {
            Own.feed(y, new byte[i < 2 ? 800 : 280]);
            y.say(c, 1);
        }
        for (int i = 0; i < 126; i++) {
            y.renew(c, 0, 1);
        }
        Check.due("2016 wait", y.line(c, 0, -1), 126 * 16);
        Check.due("bring", y.bring(c, 0, 8000), 2016);
        Check.due("NEW KEYS as often", y.line(c, 1, -1), 2000 + 126 * 16);
        Check.due("FULL", y.bring(c, 0, 1), -3);
        Check.due("the other way", y.bring(c, 1, 16), 16);
        Check.due("4000 wait", y.line(c, 1, -1), 4000);
        Check.due("nothing to bring", y.bring(c, 0, 1), 0);
        Check.due("all of it", y.bring(c, 1, 8000), 4000);
        // to the caller 800 at most
        SecureLines z = World.both();
        String wide = "abcdefghijklmnopqrstuvwxyz0123456789abcd";
        Own.hold(z, new Cert("srv", "root", World.SERVER).names(wide, wide, wide, wide).by(World.ROOT));
        for (int i = 0; i < 4; i++) {
            z.row(3);
        }
        Check.due("identity", z.identity(1, World.SERVER), 4);
        Peer big = World.toServer(z);
        big.send(1, big.helloBody(5, Peer.usualFields(1, 9), Peer.none()));
        int waits = z.line(big.c, 1, -1);
        Check.that("more waits", waits > 900);
        Check.due("bring", z.bring(big.c, 1, 8000), 800);
        Check.due("OUT", z.out(-1), 800);
        Check.due("the rest", z.line(big.c, 1, -1), waits - 800);
        Check.due("bring fewer", z.bring(big.c, 1, 5), 5);
        Peer whole = World.toServer(z);
        whole.send(1, whole.helloBody(5, Peer.usualFields(1, 9), Peer.none()));
        whole.takeAnswer(9, 0);
        whole.expect(8);
        byte[] wideOne = new Cert("srv", "root", World.SERVER).names(wide, wide, wide, wide).by(World.ROOT);
        Check.that("a CHAIN of many records", Arrays.equals(whole.expect(11),
            Peer.chain(new byte[0], wideOne, wideOne, wideOne, wideOne)));
        whole.expect(15);
        whole.takeServerEnd();
    }

    private static void exports() {
        SecureLines x = World.both();
        int c = x.connection(0, 1);
        x.feed(2, 0x0102);
        Check.due("no EXPORT yet", x.export(c, 0), 0);
        Check.due("taken", x.cut(0), 0);
        World.carry(x, c);
        x.feed(2, 0x0102);
        long due = Own.derived(0, x.key(c, 0, 5), 'y', Own.digest(0, Own.bytes(1, 2)));
        Check.due("export", x.export(c, 0), due);
        Check.due("taken", x.cut(0), 0);
        x.feed(2, 0x0102);
        Check.due("of the other side", x.export(c, 1), due);
        x.feed(2, 0x0102);
        Check.due("export c 9", x.export(9, 0), -1);
        Check.due("export side 2", x.export(c, 2), -1);
        Check.due("not taken", x.cut(0), 2);
        SecureLines y = World.both();
        y.offer(0, 0, 3);
        c = y.connection(0, 1);
        y.bring(c, 0, 8000);
        Check.due("a server from its END on", y.export(c, 1), Own.derived(1, y.key(c, 1, 5), 'y', Own.digest(1)));
    }
}
