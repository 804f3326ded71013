import java.util.ArrayList;
import java.util.Arrays;
import java.util.List;
import java.util.TreeMap;

/** The caller as a side of a RAW connection, by the document alone: it may say what it likes. */
final class Peer {
    final SecureLines x;
    final int c;
    /** The caller's side. */
    final int mine;
    byte[] inbox = {};
    byte[] messages = {};
    byte[] transcript = {};
    int suite;
    boolean writes;
    boolean reads;
    long writeKey;
    long readKey;
    int writeNumber;
    int readNumber;
    long early;
    long hand;
    long master;
    long export;
    long next;
    long clientKey;
    long serverKey;
    long sayClient;
    long sayServer;
    /** What was said to the caller, and its last ALERT. */
    byte[] said = {};
    int alert = -4;

    Peer(SecureLines x, int c, int mine) {
        this.x = x;
        this.c = c;
        this.mine = mine;
    }

    int told(int what) {
        return x.told(c, 1 - mine, what);
    }

    long key(int which) {
        return x.key(c, 1 - mine, which);
    }

    // ---- bytes to the other side

    void give(byte[]... rows) {
        byte[] row = Own.cat(rows);
        for (int at = 0; at < row.length || at == 0; at += 800) {
            Own.feed(x, Own.part(row, at, Math.min(row.length, at + 800)));
            if (x.give(c, 1 - mine) < 0) {
                throw new IllegalStateException("give refused");
            }
        }
    }

    byte[] record(int kind, byte[] content) {
        if (!writes) {
            return Own.cat(Own.bytes(kind), Own.two(content.length), content);
        }
        return sealed(Own.cat(content, Own.bytes(kind)));
    }

    byte[] sealed(byte[] text) {
        byte[] head = Own.cat(Own.bytes(23), Own.two(text.length + Own.tagSize(suite)));
        return Own.cat(head, Own.seal(suite, writeKey, writeNumber++, head, text));
    }

    static byte[] message(int type, byte[]... body) {
        byte[] whole = Own.cat(body);
        return Own.cat(Own.bytes(type), Own.two(whole.length), whole);
    }

    /** A message's bytes in records. */
    byte[] records(byte[] message) {
        byte[] got = {};
        for (int at = 0; at < message.length; at += 200) {
            got = Own.cat(got, record(22, Own.part(message, at, Math.min(message.length, at + 200))));
        }
        return got;
    }

    /** Gives a message, which goes into THE DIGEST. */
    void send(int type, byte[]... body) {
        byte[] message = message(type, body);
        note(message);
        give(records(message));
    }

    void note(byte[] message) {
        int type = message[0] & 255;
        if (type <= 20 && type != 4) {
            transcript = Own.cat(transcript, message);
        }
    }

    // ---- bytes from the other side

    void fetch() {
        while (x.bring(c, 1 - mine, 8000) > 0) {
            inbox = Own.cat(inbox, Own.out(x));
        }
    }

    /** The next record, opened: what it bears and behind it its kind; null without one. */
    byte[] nextRecord() {
        fetch();
        if (inbox.length < 3) {
            return null;
        }
        int n = Own.fourOf(Own.cat(new byte[2], Own.part(inbox, 1, 3)), 0);
        byte[] head = Own.part(inbox, 0, 3);
        byte[] body = Own.part(inbox, 3, 3 + n);
        inbox = Own.part(inbox, 3 + n, inbox.length);
        if (!reads) {
            return Own.cat(body, Own.part(head, 0, 1));
        }
        Check.due("a sealed record", head[0], 23);
        byte[] text = Own.unseal(suite, readKey, readNumber++, head, body);
        Check.that("it opens", text != null);
        return text;
    }

    /** The next message, which goes into THE DIGEST; null without one. */
    byte[] nextMessage() {
        while (messages.length < 3 || messages.length < 3 + lengthOf(messages)) {
            byte[] text = nextRecord();
            if (text == null) {
                return null;
            }
            byte[] content = Own.part(text, 0, text.length - 1);
            if (text[text.length - 1] == 22) {
                messages = Own.cat(messages, content);
            } else if (text[text.length - 1] == 21) {
                alert = content[0] & 255;
                return null;
            } else {
                said = Own.cat(said, content);
            }
        }
        int n = 3 + lengthOf(messages);
        byte[] got = Own.part(messages, 0, n);
        messages = Own.part(messages, n, messages.length);
        note(got);
        return got;
    }

    private static int lengthOf(byte[] row) {
        return (row[1] & 255) << 8 | row[2] & 255;
    }

    /** Takes the next message, which must be of a type: its BODY. */
    byte[] expect(int type) {
        byte[] got = nextMessage();
        Check.that("a message " + type + " comes", got != null && got[0] == type);
        return got == null ? new byte[0] : Own.part(got, 3, got.length);
    }

    // ---- FIELDS

    static byte[] field(int kind, byte[]... rows) {
        byte[] inside = Own.cat(rows);
        return Own.cat(Own.bytes(kind), Own.two(inside.length), inside);
    }

    /** The FIELDS that stand in a row from a place on. */
    static TreeMap<Integer, byte[]> fields(byte[] row, int from) {
        TreeMap<Integer, byte[]> got = new TreeMap<>();
        for (int at = from; at < row.length;) {
            int n = (row[at + 1] & 255) << 8 | row[at + 2] & 255;
            got.put(row[at] & 255, Own.part(row, at + 3, at + 3 + n));
            at += 3 + n;
        }
        return got;
    }

    static byte[] rows(TreeMap<Integer, byte[]> fields) {
        byte[] got = {};
        for (int kind : fields.keySet()) {
            got = Own.cat(got, field(kind, fields.get(kind)));
        }
        return got;
    }

    // ---- keys

    int h() {
        return Own.hashOf(suite);
    }

    long digest() {
        return Own.digest(h(), transcript);
    }

    /** The first HELLO counts by its DIGEST. */
    void shorten() {
        transcript = Own.cat(Own.bytes(254, 0, 8), Own.secret(digest()));
    }

    void makeHand(long secret, long joint) {
        early = Own.keyed(h(), 0, Own.secret(secret));
        hand = Own.keyed(h(), Own.derived(h(), early, 'd', 0), Own.secret(joint));
        clientKey = Own.derived(h(), hand, 'c', digest());
        serverKey = Own.derived(h(), hand, 's', digest());
    }

    void makeMaster() {
        master = Own.keyed(h(), Own.derived(h(), hand, 'd', 0), Own.secret(0));
        export = Own.derived(h(), master, 'x', digest());
        sayClient = Own.derived(h(), master, 'C', digest());
        sayServer = Own.derived(h(), master, 'S', digest());
    }

    void makeNext() {
        next = Own.derived(h(), master, 'r', digest());
    }

    void writeBy(long key) {
        writes = true;
        writeKey = key;
        writeNumber = 0;
    }

    void readBy(long key) {
        reads = true;
        readKey = key;
        readNumber = 0;
    }

    long end(long key) {
        return Own.keyed(h(), Own.derived(h(), key, 'f', 0), Own.secret(digest()));
    }

    static long binder(int h, long secret, byte[] transcript) {
        long key = Own.derived(h, Own.derived(h, Own.keyed(h, 0, Own.secret(secret)), 'b', 0), 'f', 0);
        return Own.keyed(h, key, Own.secret(Own.digest(h, transcript)));
    }

    // ---- the caller as a SERVER

    byte[] hello;
    TreeMap<Integer, byte[]> helloFields;

    void takeHello() {
        hello = expect(1);
        helloFields = fields(hello, 8);
    }

    /** ANSWER with a SHARE of the client's group by x (0: none), and CHOSEN (-1: none), by a secret; then the keys. */
    void answer(int ofSuite, int secretNumber, int chosen, long secret) {
        suite = ofSuite;
        byte[] fields = {};
        long joint = 0;
        if (secretNumber > 0) {
            byte[] share = helloFields.get(4);
            int group = share[0];
            joint = Own.joint(group, secretNumber, Own.fourOf(share, 1));
            fields = field(4, Own.bytes(group), Own.four(Own.point(group, secretNumber)));
        }
        if (chosen >= 0) {
            fields = Own.cat(fields, field(10, Own.bytes(chosen)));
        }
        send(2, Own.secret(99), Own.bytes(suite), fields);
        makeHand(secret, joint);
        writeBy(serverKey);
        readBy(clientKey);
    }

    static byte[] chain(byte[] staple, byte[]... certificates) {
        byte[] got = Own.bytes(certificates.length);
        for (byte[] certificate : certificates) {
            got = Own.cat(got, Own.two(certificate.length), certificate);
        }
        return Own.cat(got, Own.two(staple.length), staple);
    }

    byte[] proof(int letter, int scheme, int key) {
        return Own.cat(Own.bytes(scheme), Own.secret(Own.sign(scheme, key, Own.bytes(letter), Own.secret(digest()))));
    }

    /** The server's END, and what is said from then on by both. */
    void endAsServer() {
        send(20, Own.secret(end(serverKey)));
        makeMaster();
        writeBy(sayServer);
    }

    void takeClientEnd() {
        long due = end(clientKey);
        Check.due("the client's END", Own.secretOf(expect(20), 0), due);
        makeNext();
        readBy(sayClient);
    }

    // ---- the caller as a CLIENT

    /** The BODY of a HELLO; SHARED secrets by ids and ages get their BINDERS behind what the transcript has. */
    byte[] helloBody(long random, TreeMap<Integer, byte[]> fields, List<Offered> offered) {
        byte[] head = Own.cat(Own.secret(random), rows(fields));
        if (offered.isEmpty()) {
            return head;
        }
        byte[] list = Own.bytes(offered.size());
        for (Offered one : offered) {
            list = Own.cat(list, Own.bytes(one.id.length), one.id, Own.four(one.age));
        }
        int size = list.length + 8 * offered.size();
        byte[] upTo = Own.cat(head, Own.bytes(10), Own.two(size), list);
        byte[] body = upTo;
        for (Offered one : offered) {
            byte[] counted = Own.cat(transcript, Own.bytes(1), Own.two(upTo.length + 8 * offered.size()), upTo);
            body = Own.cat(body, Own.secret(binder(one.h, one.secret, counted)));
        }
        return body;
    }

    static final class Offered {
        final byte[] id;
        final int h;
        final long secret;
        final int age;

        Offered(byte[] id, int h, long secret, int age) {
            this.id = id;
            this.h = h;
            this.secret = secret;
            this.age = age;
        }
    }

    static TreeMap<Integer, byte[]> usualFields(int group, int secretNumber) {
        TreeMap<Integer, byte[]> got = new TreeMap<>();
        got.put(1, Own.bytes(4));
        got.put(2, Own.bytes(1, 2, 3));
        got.put(3, Own.bytes(1, 2, 3));
        got.put(4, Own.cat(Own.bytes(group), Own.four(Own.point(group, secretNumber))));
        got.put(5, Own.bytes(1, 2));
        return got;
    }

    /** Takes ANSWER and makes the keys; secretNumber is the client's own. */
    TreeMap<Integer, byte[]> takeAnswer(int secretNumber, long secret) {
        byte[] body = expect(2);
        suite = body[8];
        TreeMap<Integer, byte[]> fields = fields(body, 9);
        long joint = 0;
        if (fields.containsKey(4)) {
            byte[] share = fields.get(4);
            joint = Own.joint(share[0], secretNumber, Own.fourOf(share, 1));
        }
        makeHand(secret, joint);
        readBy(serverKey);
        writeBy(clientKey);
        return fields;
    }

    void takeServerEnd() {
        long due = end(serverKey);
        Check.due("the server's END", Own.secretOf(expect(20), 0), due);
        makeMaster();
        readBy(sayServer);
    }

    void endAsClient() {
        send(20, Own.secret(end(clientKey)));
        makeNext();
        writeBy(sayClient);
    }

    static List<Offered> none() {
        return new ArrayList<>();
    }

    static List<Offered> of(Offered... offered) {
        return Arrays.asList(offered);
    }

    /** The ALERT that the other side put: by what is told, and by what comes on the line. */
    void dueAlert(String what, int due) {
        Check.due(what + ": ALERT", told(6), due);
        Check.due(what + ": state", told(0), 2);
        while (nextMessage() != null) {
            continue;
        }
        Check.due(what + ": the ALERT that comes", alert, due);
    }
}
