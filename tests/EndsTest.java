/** Promises 29 to 39: ends and what they have. */
public final class EndsTest {
    public static void main(String[] args) {
        ends();
        offers();
        settings();
        randoms();
        anchors();
        identities();
        hosts();
        secrets();
        earlies();
        Check.end("EndsTest");
    }

    private static void ends() {
        SecureLines x = new SecureLines();
        Check.due("role 2", x.end(2), -1);
        Check.due("role -1", x.end(-1), -1);
        for (int i = 0; i < 8; i++) {
            Check.due("end", x.end(i & 1), i);
        }
        Check.due("the ninth", x.end(0), -3);
        Check.due("BAD ahead of FULL", x.end(2), -1);
    }

    private static void offers() {
        SecureLines x = new SecureLines();
        x.end(0);
        Check.due("one", x.offer(0, 0, 3), 1);
        Check.due("three", x.offer(0, 0, 0x030102), 3);
        Check.due("0s between", x.offer(0, 1, 0x03000001), 2);
        Check.due("two schemes", x.offer(0, 2, 0x0201), 2);
        Check.due("none", x.offer(0, 0, 0), -1);
        Check.due("one twice", x.offer(0, 0, 0x0101), -1);
        Check.due("one twice, apart", x.offer(0, 0, 0x01000201), -1);
        Check.due("none such", x.offer(0, 0, 4), -1);
        Check.due("none such", x.offer(0, 1, 0x0104), -1);
        Check.due("no scheme 3", x.offer(0, 2, 3), -1);
        Check.due("below 0", x.offer(0, 0, -1), -1);
        Check.due("no end", x.offer(1, 0, 1), -1);
        Check.due("end -1", x.offer(-1, 0, 1), -1);
        Check.due("what 3", x.offer(0, 3, 1), -1);
        Check.due("what -1", x.offer(0, -1, 1), -1);
        // what stands is what was offered last
        Peer peer = new Peer(x, x.connection(0, -1), 1);
        peer.takeHello();
        Check.due("SUITES", Own.digest(0, peer.helloFields.get(2)), Own.digest(0, Own.bytes(3, 1, 2)));
        Check.due("GROUPS", Own.digest(0, peer.helloFields.get(3)), Own.digest(0, Own.bytes(3, 1)));
        Check.due("SCHEMES", Own.digest(0, peer.helloFields.get(5)), Own.digest(0, Own.bytes(2, 1)));
        Check.due("SHARE of the first GROUP", peer.helloFields.get(4)[0], 3);
        x.end(0);
        Peer other = new Peer(x, x.connection(1, -1), 1);
        other.takeHello();
        Check.due("at first SUITES", Own.digest(0, other.helloFields.get(2)), Own.digest(0, Own.bytes(1, 2, 3)));
        Check.due("at first GROUPS", Own.digest(0, other.helloFields.get(3)), Own.digest(0, Own.bytes(1, 2, 3)));
        Check.due("at first SCHEMES", Own.digest(0, other.helloFields.get(5)), Own.digest(0, Own.bytes(1, 2)));
    }

    private static void settings() {
        SecureLines x = new SecureLines();
        x.end(0);
        x.end(1);
        int[] first = {0, 0, 1, 60, 0, 1, 0, 2};
        int[] most = {1, 2, 3, 10000, 400, 1, 1, 100};
        for (int what = 0; what < 8; what++) {
            for (int e = 0; e < 2; e++) {
                boolean both = what == 0 || what == 6;
                boolean mine = both || (what == 5) == (e == 0);
                String call = "setting(" + e + ", " + what + ")";
                Check.due(call + " above", x.setting(e, what, most[what] + 1), -1);
                Check.due(call + " below", x.setting(e, what, -1), -1);
                Check.due(call, x.setting(e, what, most[what]), mine ? first[what] : -1);
                Check.due(call + " again", x.setting(e, what, 0), mine ? most[what] : -1);
                Check.due(call + " a third time", x.setting(e, what, 1), mine ? 0 : -1);
            }
        }
        Check.due("what 8", x.setting(0, 8, 0), -1);
        Check.due("what -1", x.setting(0, -1, 0), -1);
        Check.due("no end", x.setting(2, 0, 0), -1);
        Check.due("end -1", x.setting(-1, 0, 0), -1);
    }

    private static void randoms() {
        SecureLines x = new SecureLines();
        x.end(0);
        x.feed(8, 0x0102030405060708L);
        Check.due("no end", x.random(1), -1);
        Check.due("random", x.random(0), 8);
        Check.due("taken", x.cut(0), 0);
        x.feed(7, 0x0080ff00ff00ffL);
        x.feed(1, 9);
        Check.due("random", x.random(0), 16);
        x.setting(0, 5, 1);
        Peer peer = new Peer(x, x.connection(0, -1), 1);
        peer.takeHello();
        Check.due("RANDOM", Own.secretOf(peer.hello, 0), 0x0102030405060708L);
        int number = 2 + (0x0080ff00 & 0x3fffffff);
        Check.due("the POINT", Own.fourOf(peer.helloFields.get(4), 1), Own.point(1, number));
        Peer other = new Peer(x, x.connection(0, -1), 1);
        other.takeHello();
        Check.due("the rest, then 0s", Own.secretOf(other.hello, 0), 0xff00ff0900000000L);
        Check.due("the POINT of 2", Own.fourOf(other.helloFields.get(4), 1), Own.point(1, 2));
        x.feed(8, 0);
        x.feed(4, -1);
        x.random(0);
        Peer third = new Peer(x, x.connection(0, -1), 1);
        third.takeHello();
        Check.due("without its two highest bits", Own.fourOf(third.helloFields.get(4), 1), Own.point(1, 2 + 0x3fffffff));
        Own.feed(x, new byte[200]);
        Check.due("200", x.random(0), 200);
        x.feed(1, 1);
        Check.due("201", x.random(0), -3);
        Check.due("not taken", x.cut(0), 1);
        Check.due("random of nothing", x.random(0), 200);
    }

    private static void anchors() {
        SecureLines x = new SecureLines();
        x.end(0);
        x.end(1);
        Own.hold(x, new Cert("a", "a", 5).by(5));
        Own.hold(x, new Cert("b", "b", 5).by(5));
        Check.due("no certificate", x.trust(0, 2), -1);
        Check.due("certificate -1", x.trust(0, -1), -1);
        Check.due("no end", x.trust(2, 0), -1);
        Check.due("trust", x.trust(0, 1), 1);
        Check.due("trust", x.trust(0, 1), 1);
        Check.due("trust", x.trust(0, 0), 2);
        Check.due("of another end", x.trust(1, 0), 1);
    }

    private static void identities() {
        SecureLines x = new SecureLines();
        x.end(1);
        Own.hold(x, new Cert("a", "a", 5).by(5));
        Own.hold(x, new Cert("b", "b", 6).by(5));
        Check.due("an empty ROW", x.identity(0, 5), -2);
        Check.due("no end", x.identity(1, 5), -1);
        Check.due("key 0", x.identity(0, 0), -1);
        Check.due("key q", x.identity(0, Own.Q), -1);
        x.row(0);
        Check.due("another KEY", x.identity(0, 6), -2);
        Check.due("not empty then", x.step(-1), 1);
        Check.due("identity", x.identity(0, 5), 1);
        Check.due("empty then", x.step(-1), 0);
        x.row(1);
        x.row(0);
        x.row(0);
        x.row(0);
        Check.due("of four", x.identity(0, 6), 4);
        for (int i = 0; i < 5; i++) {
            x.row(0);
        }
        Check.due("of five", x.identity(0, 5), -2);
        Check.due("BAD ahead of NO", x.identity(1, 5), -1);
        Check.due("not empty then", x.step(-1), 5);
    }

    private static void hosts() {
        SecureLines x = new SecureLines();
        x.end(0);
        x.end(1);
        Own.feed(x, Own.text("a.b"));
        Check.due("of a server", x.host(1), -1);
        Check.due("no end", x.host(2), -1);
        Check.due("host", x.host(0), 1);
        Check.due("taken", x.cut(0), 0);
        Check.due("nothing is no NAME", x.host(0), -2);
        Own.feed(x, Own.text("*.a.b"));
        Check.due("no NAME", x.host(0), -2);
        Check.due("not taken", x.cut(0), 5);
        Own.feed(x, Own.text("c"));
        Check.due("host", x.host(0), 1);
        Peer peer = new Peer(x, x.connection(0, -1), 1);
        peer.takeHello();
        Check.due("HOST", Own.digest(0, peer.helloFields.get(6)), Own.digest(0, Own.text("c")));
    }

    private static void secrets() {
        SecureLines x = new SecureLines();
        x.end(0);
        x.end(1);
        Check.due("an id of none", x.shared(0, 0, 5), -2);
        Own.feed(x, new byte[17]);
        Check.due("an id of 17", x.shared(0, 0, 5), -2);
        Check.due("h 2", x.shared(0, 2, 5), -1);
        Check.due("no end", x.shared(2, 0, 5), -1);
        Check.due("not taken", x.cut(16), 1);
        Check.due("an id of 16", x.shared(0, 1, 5), 1);
        Check.due("taken", x.cut(0), 0);
        for (int i = 2; i <= 6; i++) {
            x.feed(1, i);
            Check.due("shared", x.shared(0, i & 1, i), i);
        }
        x.feed(1, 7);
        Check.due("the seventh", x.shared(0, 0, 7), -3);
        Check.due("another end's", x.shared(1, 0, 7), 1);
        Check.due("NO ahead of FULL", x.shared(0, 0, 7), -2);
        Check.due("ticket 0 h", x.ticket(0, 0, 0), 1);
        Check.due("OUT is the id", x.out(-1), 16);
        Check.due("ticket 1 h", x.ticket(0, 1, 0), 0);
        Check.due("OUT is the id", x.out(0), 2);
        for (int what = 1; what <= 5; what++) {
            Check.due("no TICKET", x.ticket(0, 1, what), 0);
        }
        Check.due("what 6", x.ticket(0, 1, 6), -1);
        Check.due("what -1", x.ticket(0, 1, -1), -1);
        Check.due("k 6", x.ticket(0, 6, 0), -1);
        Check.due("k -1", x.ticket(0, -1, 0), -1);
        Check.due("no end", x.ticket(2, 0, 0), -1);
        Check.due("forget k 6", x.forget(0, 6), -1);
        Check.due("forget k -1", x.forget(0, -1), -1);
        Check.due("forget no end", x.forget(2, 0), -1);
        Check.due("forget", x.forget(0, 1), 5);
        for (int k = 1; k < 5; k++) {
            x.ticket(0, k, 0);
            Check.due("the next one's id", x.out(0), k + 2);
        }
        Check.due("forget", x.forget(0, 4), 4);
        Check.due("forget no more", x.forget(0, 4), -1);
    }

    private static void earlies() {
        SecureLines x = new SecureLines();
        x.end(0);
        x.end(1);
        Check.due("of a server", x.early(1), -1);
        Check.due("no end", x.early(2), -1);
        Check.due("none", x.early(0), 0);
        Own.feed(x, new byte[400]);
        Check.due("400", x.early(0), 400);
        Check.due("taken", x.cut(0), 0);
        Own.feed(x, new byte[401]);
        Check.due("401", x.early(0), -2);
        Check.due("not taken", x.cut(2), 399);
        Check.due("in place of others", x.early(0), 2);
    }
}
