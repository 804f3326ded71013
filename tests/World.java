/** Objects with ends, certificates and RAW lines, as many tests want them. */
final class World {
    static final int ROOT = 11;
    static final int SERVER = 21;
    static final int CLIENT = 31;

    private World() {
    }

    static byte[] root() {
        return new Cert("root", "root", ROOT).office().by(ROOT);
    }

    static byte[] server() {
        return new Cert("srv", "root", SERVER).serial(2).uses(1).names("a.b", "*.c.d").by(ROOT);
    }

    static byte[] client() {
        return new Cert("cli", "root", CLIENT).serial(3).uses(2).by(ROOT);
    }

    /** End 0 a client, end 1 a server, which trust the root; the server has an IDENTITY. */
    static SecureLines both() {
        SecureLines x = new SecureLines();
        x.end(0);
        x.end(1);
        Own.hold(x, root());
        Own.hold(x, server());
        Own.hold(x, client());
        x.trust(0, 0);
        x.trust(1, 0);
        x.row(1);
        x.identity(1, SERVER);
        return x;
    }

    static void clientIdentity(SecureLines x) {
        x.row(2);
        x.identity(0, CLIENT);
    }

    static void share(SecureLines x, int e, String id, int h, long secret) {
        Own.feed(x, Own.text(id));
        x.shared(e, h, secret);
    }

    static void random(SecureLines x, int e, long... values) {
        for (long value : values) {
            x.feed(8, value);
        }
        x.random(e);
    }

    /** So many bytes come behind an empty TAPE, by few calls; OUT is another one then. */
    static byte[] tape(SecureLines x, int n) {
        int piece = x.text(1, 11, 0);
        byte[] one = Own.out(x);
        byte[] got = {};
        while (got.length + piece <= n) {
            x.again();
            got = Own.cat(got, one);
        }
        byte[] rest = Own.rowOf(n - got.length, 0x5a);
        Own.feed(x, rest);
        return Own.cat(got, rest);
    }

    /** Says so many bytes; they need not be one TAPE. */
    static void say(SecureLines x, int c, int side, int n) {
        for (int left = n; left > 0; left -= 800) {
            tape(x, Math.min(left, 800));
            Check.due("say", x.say(c, side), Math.min(left, 800));
        }
    }

    /** Brings all that waits, from one to the other, till nothing waits. */
    static void carry(SecureLines x, int c) {
        for (int turn = 0; turn < 20; turn++) {
            int got = x.bring(c, 0, 8000) + x.bring(c, 1, 8000);
            if (got <= 0) {
                return;
            }
        }
    }

    /** The caller as a client of end 1. */
    static Peer toServer(SecureLines x) {
        return new Peer(x, x.connection(-1, 1), 0);
    }

    /** The caller as a server of end 0; HELLO has come. */
    static Peer toClient(SecureLines x) {
        Peer peer = new Peer(x, x.connection(0, -1), 1);
        peer.takeHello();
        return peer;
    }
}
