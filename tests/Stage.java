import java.util.TreeMap;

/** Peers that have come to a place of a greeting. */
final class Stage {
    static final byte[] NONE = {};

    private Stage() {
    }

    // ---- the caller as a client of end 1

    /** A HELLO's message as a client would put it. */
    static byte[] hello(Peer peer) {
        return Peer.message(1, peer.helloBody(5, Peer.usualFields(1, 9), Peer.none()));
    }

    /** It has got the server's END. */
    static Peer greeted(SecureLines x) {
        return greeted(x, Peer.usualFields(1, 9));
    }

    static Peer greeted(SecureLines x, TreeMap<Integer, byte[]> fields) {
        Peer peer = World.toServer(x);
        peer.send(1, peer.helloBody(5, fields, Peer.none()));
        peer.takeAnswer(9, 0);
        for (byte[] got = peer.nextMessage(); got != null && got[0] != 20;) {
            got = peer.nextMessage();
        }
        peer.makeMaster();
        peer.readBy(peer.sayServer);
        return peer;
    }

    /** Its END has come. */
    static Peer served(SecureLines x) {
        Peer peer = greeted(x);
        peer.endAsClient();
        Check.due("the server is open", peer.told(0), 1);
        return peer;
    }

    /** A server that asks by SETTING 1. */
    static Peer asked(int asks) {
        SecureLines x = World.both();
        x.setting(1, 1, asks);
        return greeted(x);
    }

    // ---- the caller as a server of end 0

    static Peer answered(SecureLines x) {
        Peer peer = World.toClient(x);
        peer.answer(1, 7, -1, 0);
        return peer;
    }

    static Peer begun(SecureLines x) {
        Peer peer = answered(x);
        peer.send(8);
        return peer;
    }

    static Peer shown(SecureLines x) {
        Peer peer = begun(x);
        peer.send(11, Peer.chain(NONE, World.server()));
        return peer;
    }

    static Peer proven(SecureLines x) {
        Peer peer = shown(x);
        peer.send(15, peer.proof('S', 1, World.SERVER));
        return peer;
    }

    static Peer opened(SecureLines x) {
        Peer peer = proven(x);
        peer.endAsServer();
        peer.takeClientEnd();
        Check.due("the client is open", peer.told(0), 1);
        return peer;
    }

    /** A client that got a TICKET of 60 minutes that allows so many early bytes. */
    static Peer ticketed(SecureLines x, int allows) {
        Peer peer = opened(x);
        peer.send(4, Own.four(60), Own.four(allows), Own.secret(0x6162636465666768L), Own.bytes(0));
        return peer;
    }

    /** Client and server, both open; the number of their CONNECTION. */
    static int open(SecureLines x) {
        int c = x.connection(0, 1);
        World.carry(x, c);
        Check.due("both are open", x.told(c, 0, 0) + x.told(c, 1, 0), 2);
        return c;
    }

    /** Likewise, but what is put by it is not looked at. */
    static void taken(String what, Peer peer, int due, byte[]... rows) {
        peer.give(rows);
        Check.due(what + ": ALERT", peer.told(6), due == 0 ? -4 : due);
        Check.due(what + ": ENDED", peer.told(0) == 2 ? 1 : 0, due == 0 ? 0 : 1);
    }

    /** What comes of rows that are given: an ALERT, or none (0). */
    static void given(String what, Peer peer, int due, byte[]... rows) {
        peer.give(rows);
        if (due == 0) {
            Check.due(what + ": no ALERT", peer.told(6), -4);
        } else {
            peer.dueAlert(what, due);
        }
    }
}
