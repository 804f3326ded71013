import java.lang.reflect.Method;
import java.util.ArrayList;
import java.util.Arrays;
import java.util.HashMap;
import java.util.List;
import java.util.Map;
import java.util.Random;
import java.util.TreeMap;

/** Runs of calls, and what the document's Twin answers to the same: all promises, mixed. */
public final class TwinTest {
    private static final String[] NAMES = {"a.b", "*.c.d", "x.c.d", "e", "b", "f.e", "*.f.e"};
    private static final Map<String, Method> OURS = new HashMap<>();
    private static final List<String> SORTED = new ArrayList<>();
    private static final Map<String, Method> TWINS = new HashMap<>();
    /** Over all runs: how many sides put an ALERT, and how many were open, used a TICKET, took EARLY, dropped. */
    private static final int[] ALERTS = new int[256];
    private static int opened;
    private static int resumed;
    private static int early;
    private static int dropped;

    private final Random random;
    private final SecureLines x = new SecureLines();
    private final Twin twin = new Twin();
    private final StringBuilder calls = new StringBuilder();
    private boolean wrong;
    private final Twin.Side[] ghosts = new Twin.Side[12];
    private final Twin.End[] ghostEnds = {new Twin.End(false), new Twin.End(true)};
    /** One of so many messages is twisted; 0: none is. */
    private int twists;

    private TwinTest(long seed) {
        random = new Random(seed);
    }

    public static void main(String[] args) throws ReflectiveOperationException {
        for (Method method : SecureLines.class.getDeclaredMethods()) {
            if (java.lang.reflect.Modifier.isPublic(method.getModifiers())) {
                OURS.put(method.getName(), method);
                TWINS.put(method.getName(), Twin.class.getDeclaredMethod(method.getName(), method.getParameterTypes()));
            }
        }
        Check.due("calls", OURS.size(), 67);
        SORTED.addAll(OURS.keySet());
        SORTED.sort(null);
        int from = args.length > 1 ? Integer.parseInt(args[0]) : 0;
        int to = args.length > 1 ? Integer.parseInt(args[1]) : 250;
        int told = 0;
        for (int seed = from; seed < to && told < 3; seed++) {
            TwinTest run = new TwinTest(seed);
            run.go(seed % 5);
            told += run.wrong ? 1 : 0;
        }
        Check.that("lines were opened", opened > 0);
        Check.that("TICKETS were used", resumed > 0);
        Check.that("EARLY was taken", early > 0);
        Check.that("RECORDS were dropped", dropped > 0);
        int[] alerts = {0, 10, 20, 22, 40, 42, 44, 45, 46, 47, 50, 51, 70, 109, 110, 113, 116};
        for (int alert : alerts) {
            Check.that("ALERT " + alert + " was put", ALERTS[alert] > 0);
        }
        if (args.length > 2) {
            System.out.println("open " + opened + ", by TICKET " + resumed + ", EARLY " + early + ", dropped " + dropped + ", ALERTS "
                + Arrays.toString(ALERTS));
        }
        Check.end("TwinTest");
    }

    /** One call of both. */
    private long call(String name, Object... args) {
        if (wrong) {
            return -1;
        }
        try {
            long got = ((Number) OURS.get(name).invoke(x, args)).longValue();
            long due = ((Number) TWINS.get(name).invoke(twin, args)).longValue();
            if (!name.equals("feed")) {
                calls.append(name).append(Arrays.toString(args)).append(" = ").append(got).append('\n');
            }
            if (got != due || !Arrays.equals(Own.out(x), twin.out)) {
                wrong = true;
                System.out.println(calls.length() > 6000 ? calls.substring(calls.length() - 6000) : calls.toString());
                Check.due(name + Arrays.toString(args), got, due);
                Check.that("OUT behind " + name, Arrays.equals(Own.out(x), twin.out));
            }
            return due;
        } catch (ReflectiveOperationException e) {
            wrong = true;
            Check.that(name + Arrays.toString(args) + " throws " + e.getCause(), false);
            return -1;
        }
    }

    private void tape(byte[] row) {
        call("cut", 0);
        for (int at = 0; at < row.length; at += 8) {
            byte[] part = Own.part(row, at, Math.min(row.length, at + 8));
            call("feed", part.length, Own.secretOf(Own.cat(new byte[8 - part.length], part), 0));
        }
    }

    private int some(int n) {
        return random.nextInt(n);
    }

    private boolean one(int of) {
        return random.nextInt(of) == 0;
    }

    // ---- what is there at first

    private static final int[] KEYS = {11, 12, 21, 31};

    private void hold(Cert cert, int by) {
        tape(cert.by(by));
        call("certificate");
    }

    private String[] names(int most) {
        String[] got = new String[1 + some(most)];
        for (int i = 0; i < got.length; i++) {
            got[i] = NAMES[some(NAMES.length)];
        }
        return got;
    }

    private Cert tweaked(Cert cert) {
        if (one(4)) {
            cert.times(some(8), 10 + some(1000));
        }
        if (one(4)) {
            cert.uses(1 + some(15));
        }
        if (one(3)) {
            cert.names(names(4));
        }
        if (one(8)) {
            cert.excluded("e");
        }
        if (one(8)) {
            cert.permitted("b", "c.d");
        }
        if (one(6) && cert.office) {
            cert.depth(some(3));
        }
        return one(3) ? cert.scheme(2) : cert;
    }

    /** Certificate 0 is a root, 1 a server's, 2 a client's, 3 an office between, 4 what it gave. */
    private void papers(boolean plain) {
        hold(plain ? new Cert("root", "root", 11).office() : tweaked(new Cert("root", "root", 11).office()), 11);
        Cert server = new Cert("srv", "root", 21).serial(2).names("a.b", "*.c.d");
        hold(plain ? server : tweaked(server), 11);
        Cert client = new Cert("cli", "root", 31).serial(3);
        hold(plain ? client : tweaked(client), 11);
        hold(tweaked(new Cert("mid", "root", 12).serial(4).office()), 11);
        hold(tweaked(new Cert("srv", "mid", 21).serial(5).names("a.b", "x.c.d")), one(8) ? 11 : 12);
    }

    private void ends() {
        int[] roles = {0, 1, 0, 1};
        boolean earlyWorld = one(2);
        for (int e = 0; e < 4; e++) {
            call("end", roles[e]);
            call("trust", e, 0);
            if (one(8)) {
                call("trust", e, 3);
            }
            identity(e, roles[e] == 1 || one(2));
            if (one(3)) {
                offers(e);
            }
            settings(e);
            if (!earlyWorld && one(2)) {
                secret(e);
            }
            if (earlyWorld && roles[e] == 1) {
                call("setting", e, 2, 1 + some(3));
                call("setting", e, 3, 100);
                call("setting", e, 4, one(3) ? some(400) : 400);
                call("setting", e, 7, 50);
            }
            if (roles[e] == 0 && one(3)) {
                tape(Own.text(one(6) ? NAMES[some(NAMES.length)] : one(2) ? "a.b" : "x.c.d"));
                call("host", e);
            }
            if (one(2)) {
                randoms(e);
            }
        }
        for (int role = 0; role <= 1; role++) {
            Twin.End ghost = ghostEnds[role];
            ghost.anchors.add(twin.certificates.get(0));
            ghost.identity = List.of(twin.certificates.get(role == 1 ? 1 : 2));
            ghost.key = role == 1 ? 21 : 31;
            ghost.settings[1] = role == 1 ? some(3) : 0;
            ghost.settings[2] = role == 1 ? some(4) : 1;
            ghost.settings[4] = role == 1 && one(2) ? 400 : 0;
            ghost.settings[6] = some(2);
            ghost.random = Own.cat(Own.secret(random.nextLong()), Own.secret(random.nextLong()), Own.secret(random.nextLong()));
            ghost.settings[4] = earlyWorld && role == 1 ? 400 : ghost.settings[4];
            if (!earlyWorld && one(2)) {
                ghost.secrets.add(new Twin.Shared(Own.text("s" + some(2)), some(2), some(2)));
            }
            if (one(3)) {
                ghost.offers.set(1, List.of(1 + some(3)));
            }
            if (one(3)) {
                ghost.offers.set(0, List.of(1 + some(3)));
            }
        }
    }

    private void identity(int e, boolean has) {
        if (has) {
            boolean server = e % 2 == 1;
            boolean longer = server && one(3);
            call("row", server ? longer ? 4 : 1 : 2);
            if (longer) {
                call("row", 3);
            }
            call("identity", e, server ? 21 : 31);
        }
    }

    private void offers(int e) {
        int what = some(3);
        int row = 0;
        for (int i = 0; i < 4; i++) {
            row = row << 8 | some(what == 2 ? 3 : 4);
        }
        call("offer", e, what, row);
    }

    private void settings(int e) {
        int[] most = {1, 2, 3, 10000, 400, 1, 1, 100};
        for (int what = 0; what < 8; what++) {
            if (one(3)) {
                int v = what == 0 ? (one(4) ? 1 : 0) : what == 3 ? some(20) : one(3) ? most[what] : some(most[what] + 1);
                call("setting", e, what, v);
            }
        }
    }

    private void secret(int e) {
        tape(Own.text("s" + some(2)));
        call("shared", e, some(2), (long) some(2));
    }

    private void randoms(int e) {
        tape(Own.part(Own.cat(Own.secret(random.nextLong()), Own.secret(random.nextLong()), Own.secret(random.nextLong())), 0, some(25)));
        call("random", e);
    }

    // ---- any call

    private static final int[] EDGES = {0, 1, -1, 2, 3, 4, 5, 6, 7, 8, 9, 10, 11, 12, 13, 15, 16, 17, 20, 22, 29, 30, 31, 40, 63, 64, 65,
        127, 128, 199, 200, 201, 255, 256, 400, 401, 800, 801, 2000, 4000, 7999, 8000, 8001, 10000, 10001, 999999, 1000000, 1000001,
        2000000000, Integer.MAX_VALUE, Integer.MIN_VALUE, Own.P - 2, Own.P - 1, Own.Q - 1, Own.Q};

    private long edge() {
        int way = some(10);
        return way < 6 ? some(4) : way < 9 ? EDGES[some(EDGES.length)] : random.nextInt();
    }

    private void any() {
        String name = SORTED.get(some(SORTED.size()));
        Class<?>[] types = OURS.get(name).getParameterTypes();
        Object[] args = new Object[types.length];
        for (int i = 0; i < types.length; i++) {
            long v = edge();
            args[i] = types[i] == long.class ? (Object) (one(3) ? v << 32 | edge() & 0xffffffffL : v) : (Object) (int) v;
        }
        call(name, args);
    }

    // ---- the run

    private void go(int way) {
        twists = way == 0 ? 0 : way == 1 ? 40 : way == 2 ? 15 : way == 3 ? 8 : 0;
        papers(way != 4);
        ends();
        for (int turn = 0; turn < 130 && !wrong; turn++) {
            int kind = some(100);
            if (way == 4 && kind < 60) {
                elsewhere();
            } else if (kind % 10 == 0) {
                for (int i = 0; i < 12 && !wrong; i++) {
                    any();
                }
            } else if (kind < 12) {
                connect();
            } else if (kind < 62) {
                carry();
            } else if (kind < 80) {
                speak();
            } else if (kind < 92) {
                change();
            } else {
                elsewhere();
            }
            if (!twin.lines.isEmpty()) {
                compare(some(twin.lines.size()));
            }
        }
        for (int c = 0; c < twin.lines.size() && !wrong; c++) {
            compare(c);
            for (int side = 0; side <= 1; side++) {
                Twin.Side of = twin.side(c, side);
                if (of != null) {
                    opened += of.told[0] == 1 ? 1 : 0;
                    resumed += of.told[4] == 2 ? 1 : 0;
                    early += of.told[5];
                    dropped += of.told[14] > 0 ? 1 : 0;
                    ALERTS[of.told[6] >= 0 ? of.told[6] : 255]++;
                }
            }
        }
    }

    private void compare(int c) {
        for (int side = 0; side <= 1; side++) {
            for (int what = 0; what <= 14; what++) {
                call("told", c, side, what);
            }
            for (int which = 0; which <= 7; which++) {
                call("key", c, side, which);
            }
            int waits = (int) call("line", c, side, -1);
            call("line", c, side, waits / 2);
            call("line", c, side, waits - 1);
        }
    }

    private void connect() {
        int client = one(4) ? 2 : 0;
        if (one(2)) {
            tape(Own.rowOf(some(one(2) ? 5 : 401), 9));
            call("early", client);
        }
        int way = some(3);
        int c = (int) call("connection", way == 1 ? -1 : client, way == 2 ? -1 : one(4) ? 3 : 1);
        if (c >= 0 && way > 0) {
            Twin.End end = ghostEnds[way - 1];
            if (way == 1 && one(2)) {
                end.early = Own.rowOf(some(300), 7);
            }
            Twin.Side ghost = twin.new Side(end);
            ghost.twist = new Wild();
            ghosts[c] = ghost;
            if (way == 1) {
                ghost.greet();
            }
        }
    }

    private void carry() {
        if (twin.lines.isEmpty()) {
            connect();
            return;
        }
        int c = one(3) ? some(twin.lines.size()) : twin.lines.size() - 1;
        int n = one(4) ? 1 + some(60) : one(3) ? 1 + some(400) : 8000;
        if (ghosts[c] == null) {
            if (twists > 0 && one(60)) {
                int side = some(2);
                int waits = (int) call("line", c, side, -1);
                call("alter", c, side, some(Math.max(1, waits)), 1 + some(255));
            }
            call("bring", c, some(2), n);
            call("bring", c, some(2), n);
            return;
        }
        int real = twin.side(c, 0) == null ? 1 : 0;
        if (one(2)) {
            int got = (int) call("bring", c, real, n);
            if (got > 0) {
                ghosts[c].come(twin.out);
            }
        } else {
            if (twists > 0 && one(25)) {
                stray(ghosts[c]);
            }
            byte[] line = ghosts[c].line;
            int count = Math.min(Math.min(n, 800), line.length);
            tape(Own.part(line, 0, count));
            if (call("give", c, real) >= 0) {
                ghosts[c].line = Own.part(line, count, line.length);
            }
        }
    }

    /** A RECORD that the ghost puts besides: an ALERT, said bytes, parts of messages, any kind, one that does not open. */
    private void stray(Twin.Side ghost) {
        int way = some(6);
        if (way == 0) {
            ghost.putRecord(21, Own.bytes(one(2) ? 0 : some(256)));
        } else if (way == 1) {
            ghost.putRecord(23, Own.rowOf(some(20), 3));
        } else if (way == 2) {
            ghost.putRecord(some(30), Own.rowOf(some(3), 3));
        } else if (way == 3) {
            ghost.line = Own.cat(ghost.line, Own.bytes(23, 0, 9), new byte[9]);
        } else if (way == 4) {
            ghost.line = Own.cat(ghost.line, Own.bytes(20 + some(5), some(2), some(256)));
        } else {
            ghost.putRecord(22, Own.bytes(some(30), 0, some(4), 0, 0));
        }
    }

    private void speak() {
        if (twin.lines.isEmpty()) {
            return;
        }
        int c = some(twin.lines.size());
        int side = some(2);
        switch (some(9)) {
            case 0:
            case 1:
            case 2:
                tape(Own.rowOf(some(one(3) ? 801 : 10), some(256)));
                call("say", c, side);
                break;
            case 3:
            case 4:
                for (int i = some(8); i >= 0; i--) {
                    call("hear", c, side);
                }
                break;
            case 5:
                call("renew", c, side, some(2));
                break;
            case 6:
                if (one(4)) {
                    call("close", c, side);
                }
                break;
            case 7:
                tape(Own.rowOf(some(12), 5));
                call("export", c, side);
                break;
            default:
                if (ghosts[c] != null && ghosts[c].maySay()) {
                    ghostSpeaks(ghosts[c]);
                }
                break;
        }
    }

    private void ghostSpeaks(Twin.Side ghost) {
        if (one(3)) {
            ghost.renew(some(2));
        } else if (one(8)) {
            ghost.putAlert(0);
            ghost.told[8] = 1;
        } else {
            ghost.putRecords(23, Own.rowOf(some(450), some(256)));
        }
    }

    private void change() {
        int e = some(4);
        switch (some(9)) {
            case 0:
                call("tick", one(4) ? some(70) : some(3));
                break;
            case 1:
                settings(e);
                break;
            case 2:
                offers(e);
                break;
            case 3:
                secret(e);
                break;
            case 4:
                call("forget", e, some(7));
                break;
            case 5:
                call("ticket", e, some(6), some(6));
                break;
            case 6:
                randoms(e);
                break;
            case 7:
                identity(e, true);
                break;
            default:
                call("cut", 0);
                break;
        }
    }

    // ---- forms, paths, the office, logs

    private void elsewhere() {
        switch (some(7)) {
            case 0:
                paths();
                break;
            case 1:
                moreTold();
                break;
            case 2:
            case 3:
                office();
                break;
            case 4:
                logs();
                break;
            case 5:
                functions();
                break;
            default:
                forms();
                break;
        }
    }

    private void paths() {
        int n = twin.certificates.size();
        if (one(2)) {
            call("build", some(4), some(n), some(40), some(3));
            call("step", some(4) - 1);
            call("judge", some(4), some(40), some(3));
            return;
        }
        for (int i = 1 + some(4); i > 0; i--) {
            call("row", one(3) ? 0 : some(n));
        }
        call("judge", some(4), some(40), some(3));
        call("status", some(n), some(n), some(40));
    }

    private void moreTold() {
        String issuer = one(2) ? "root" : "mid";
        int key = issuer.equals("root") ? 11 : 12;
        int from = some(10);
        if (one(2)) {
            tape(Cert.list(issuer, some(4), from, from + some(60), 1 + some(2), one(6) ? 5 : key, one(2) ? new int[] {2} : new int[] {3, 4}));
            call("list");
        } else {
            tape(Cert.answer(issuer, 1 + some(6), one(4) ? 1 : 0, from, from + some(60), 1 + some(2), one(6) ? 5 : key));
            call("answer");
        }
    }

    private void office() {
        int o = some(2);
        switch (some(9)) {
            case 0:
                call("office", one(2) ? 0 : 3, one(4) ? 12 : 11, 1 + some(2));
                break;
            case 1:
                call("account", o, (long) some(3));
                break;
            case 2:
                tape(Own.text(String.join(",", names(4))));
                call("order", o, some(2));
                break;
            case 3:
            case 4:
                meet(o, some(3));
                break;
            case 5:
                int got = (int) call("issue", o, some(4), Own.keyPoint(one(2) ? 21 : 31), 1 + some(100));
                call("field", got, some(12));
                call("text", got, 11, 0);
                break;
            case 6:
                call("revoke", o, some(4));
                break;
            case 7:
                call("publish", o, 1 + some(60));
                break;
            default:
                call("respond", o, 1 + some(3), 1 + some(60));
                break;
        }
        call("ordered", o, some(3), one(2) ? some(4) : 10 * (1 + some(2)) + some(3));
    }

    private void meet(int o, int order) {
        for (int k = 0; k < 3; k++) {
            int token = (int) call("ordered", o, order, 10 + k);
            if (token > 0) {
                Twin.Order of = twin.offices.get(o).orders.get(order);
                long secret = twin.offices.get(o).accounts.get(of.account);
                tape(Own.text(Twin.base(of.patterns.get(k))));
                call("zone", Own.derived(0, secret, 'z', one(20) ? 0 : token));
                call("challenge", o, order, k);
            }
        }
    }

    private void logs() {
        int l = some(2);
        if (one(4)) {
            call("log");
        }
        for (int i = some(12); i > 0; i--) {
            call("add", l, random.nextLong());
        }
        int n = l < twin.logs.size() ? 1 + some(twin.logs.get(l).size() + 1) : 1;
        int i = some(n + 1);
        long head = call("head", l, n);
        if (call("inclusion", l, i, n) >= 0) {
            call("cut", 0);
            call("again");
            call("included", one(6) ? 5L : (long) twin.logs.get(l).get(i), i, n, head);
        }
        long first = call("head", l, i);
        if (call("consistency", l, i, n) >= 0) {
            call("cut", 0);
            call("again");
            call("consistent", i, n, first, one(6) ? 5L : head);
        }
    }

    private void functions() {
        byte[] row = new byte[some(40)];
        random.nextBytes(row);
        tape(row);
        long k = random.nextLong();
        int suite = 1 + some(3);
        int data = some(12);
        if (call("seal", suite, k, (long) data, data) >= 0) {
            tape(Own.part(row, 0, data));
            call("again");
            call("unseal", one(6) ? 1 : suite, k, (long) data, data);
        }
        tape(row);
        call("keyed", some(2), k);
        tape(row);
        call("digest", some(2));
        tape(row);
        long signature = call("sign", 1 + some(2), KEYS[some(4)]);
        tape(row);
        call("fits", 1 + some(2), Own.keyPoint(KEYS[some(4)]), signature);
        call("joint", suite, random.nextInt() & Integer.MAX_VALUE, random.nextInt());
        call("point", suite, random.nextInt() & Integer.MAX_VALUE);
    }

    /** A CERTIFICATE, a LIST or an ANSWER that is twisted somewhere. */
    private void forms() {
        byte[] row = one(3) ? Cert.list("root", 3, 0, 9, 1, 11, 1, 2, 3) : one(2) ? Cert.answer("root", 2, 0, 0, 9, 1, 11)
            : tweaked(new Cert("n", "root", 31).office()).by(11);
        for (int i = some(3); i > 0; i--) {
            int at = some(row.length);
            if (one(2)) {
                row[at] = (byte) (one(2) ? random.nextInt() : row[at] + 1 - 2 * some(2));
            } else {
                row = one(2) ? Own.cat(Own.part(row, 0, at), Own.part(row, at + 1, row.length)) : Own.part(row, 0, at + 1);
            }
        }
        tape(row);
        int way = some(4);
        call(way == 0 ? "node" : way == 1 ? "certificate" : way == 2 ? "list" : "answer");
    }

    /** What a ghost changes in its messages. */
    private final class Wild extends Twin.Twist {
        private boolean now() {
            return twists > 0 && one(twists);
        }

        @Override
        void fields(int type, TreeMap<Integer, byte[]> fields) {
            if (!now()) {
                return;
            }
            int kind = one(6) ? some(13) : fields.isEmpty() ? 8 : (int) fields.keySet().toArray()[some(fields.size())];
            switch (some(5)) {
                case 0:
                    fields.remove(kind);
                    break;
                case 1:
                    fields.put(kind, Own.rowOf(some(10), some(5)));
                    break;
                case 2:
                    fields.put(one(2) ? 200 : 11, Own.rowOf(some(3), 1));
                    break;
                default:
                    byte[] was = fields.get(kind);
                    if (was != null && was.length > 0) {
                        was = was.clone();
                        was[some(was.length)] = (byte) (one(2) ? some(5) : random.nextInt());
                        fields.put(kind, one(4) ? Own.part(was, 0, was.length - 1) : was);
                    }
                    break;
            }
        }

        @Override
        byte[] body(int type, byte[] body) {
            if (!now() || !one(2)) {
                return body;
            }
            if (one(3)) {
                return Own.cat(body, new byte[1 + some(3)]);
            }
            if (body.length == 0 || one(3)) {
                return Own.part(body, 0, some(body.length + 1));
            }
            byte[] got = body.clone();
            got[some(got.length)] = (byte) (one(2) ? some(5) : random.nextInt());
            return got;
        }

        @Override
        byte[] behind(int type) {
            return now() && one(3) ? new byte[1 + some(3)] : new byte[0];
        }
    }
}
