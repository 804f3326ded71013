import java.util.ArrayList;
import java.util.Arrays;
import java.util.HashMap;
import java.util.Iterator;
import java.util.LinkedHashMap;
import java.util.List;
import java.util.Map;
import java.util.TreeMap;

/** The document told once more, in another way: each call answers what is due, to compare with. */
final class Twin {
    static final int BAD = -1;
    static final int NO = -2;
    static final int FULL = -3;
    static final int NONE = -4;

    byte[] tape = {};
    byte[] out = {};
    int time;
    final List<Paper> certificates = new ArrayList<>();
    final List<Paper> lists = new ArrayList<>();
    final List<Paper> answers = new ArrayList<>();
    List<Integer> row = new ArrayList<>();
    final List<End> ends = new ArrayList<>();
    /** Of each CONNECTION the client and the server; null is the caller. */
    final List<Side[]> lines = new ArrayList<>();
    final List<Office> offices = new ArrayList<>();
    final Map<String, Long> zone = new LinkedHashMap<>();
    final List<List<Long>> logs = new ArrayList<>();
    private final Map<String, Boolean> fitting = new HashMap<>();

    // ---- THE TAPE, OUT, TIME

    private byte[] take() {
        byte[] got = tape;
        tape = new byte[0];
        return got;
    }

    private int leave(byte[] bytes) {
        out = bytes;
        return bytes.length;
    }

    int feed(int n, long w) {
        if (n < 1 || n > 8) {
            return BAD;
        }
        if (tape.length + n > 800) {
            return FULL;
        }
        tape = Own.cat(tape, Own.part(Own.secret(w), 8 - n, 8));
        return tape.length;
    }

    int cut(int n) {
        if (n < 0 || n > tape.length) {
            return BAD;
        }
        int gone = tape.length - n;
        tape = Own.part(tape, 0, n);
        return gone;
    }

    int out(int i) {
        return i == -1 ? out.length : i < 0 || i >= out.length ? BAD : out[i] & 255;
    }

    int again() {
        if (tape.length + out.length > 800) {
            return FULL;
        }
        tape = Own.cat(tape, out);
        return tape.length;
    }

    int tick(int n) {
        if (n < 0 || n > 1000000) {
            return BAD;
        }
        if (time + n > 2000000000) {
            return NO;
        }
        time += n;
        return time;
    }

    // ---- functions

    private static boolean hash(int h) {
        return h == 0 || h == 1;
    }

    private static boolean scheme(int s) {
        return s == 1 || s == 2;
    }

    private static boolean key(int x) {
        return x >= 1 && x <= Own.Q - 1;
    }

    long digest(int h) {
        return hash(h) ? Own.digest(h, take()) : BAD;
    }

    long keyed(int h, long k) {
        return hash(h) ? Own.keyed(h, k, take()) : BAD;
    }

    long derived(int h, long k, int letter, long d) {
        return hash(h) && letter >= 0 && letter <= 255 ? Own.derived(h, k, letter, d) : BAD;
    }

    int seal(int suite, long k, long m, int data) {
        if (suite < 1 || suite > 3 || data < 0 || data > tape.length) {
            return BAD;
        }
        byte[] t = take();
        return leave(Own.seal(suite, k, m, Own.part(t, 0, data), Own.part(t, data, t.length)));
    }

    int unseal(int suite, long k, long m, int data) {
        if (suite < 1 || suite > 3 || data < 0 || data > tape.length) {
            return BAD;
        }
        byte[] t = take();
        byte[] text = Own.unseal(suite, k, m, Own.part(t, 0, data), Own.part(t, data, t.length));
        if (text != null) {
            out = text;
        }
        return text != null ? 1 : 0;
    }

    int point(int group, int x) {
        return group < 1 || group > 3 || x < 0 ? BAD : Own.point(group, x);
    }

    long joint(int group, int x, int y) {
        return group < 1 || group > 3 || x < 0 ? BAD : Own.joint(group, x, y);
    }

    int keyPoint(int x) {
        return key(x) ? Own.keyPoint(x) : BAD;
    }

    long sign(int s, int x) {
        return scheme(s) && key(x) ? Own.sign(s, x, take()) : BAD;
    }

    int fits(int s, int y, long signature) {
        return !scheme(s) ? BAD : Own.fits(s, y, signature, take()) ? 1 : 0;
    }

    // ---- forms

    static final class Fault extends Exception {
        private static final long serialVersionUID = 1;
        final int place;

        Fault(int place) {
            this.place = place;
        }
    }

    static final class Node {
        final int tag;
        final byte[] whole;
        final byte[] content;
        final List<Node> parts = new ArrayList<>();

        /** The NODE that begins in a row, and may go up to an end. */
        Node(byte[] row, int from, int end, int above) throws Fault {
            lacks(from, end);
            tag = row[from] & 255;
            if (tag != 48 && tag != 2 && tag != 4 && tag != 12 && (tag < 161 || tag > 166) || above == 10) {
                throw new Fault(from);
            }
            lacks(from + 1, end);
            int n = row[from + 1] & 255;
            int start = from + 2;
            if (n == 129) {
                lacks(from + 2, end);
                n = row[from + 2] & 255;
                start = from + 3;
                n = n < 128 ? -1 : n;
            } else if (n == 130) {
                lacks(from + 2, end);
                lacks(from + 3, end);
                n = (row[from + 2] & 255) * 256 + (row[from + 3] & 255);
                start = from + 4;
                n = n < 256 ? -1 : n;
            } else if (n >= 128) {
                n = -1;
            }
            if (n < 0 || start + n > end) {
                throw new Fault(from + 1);
            }
            content = Own.part(row, start, start + n);
            whole = Own.part(row, from, start + n);
            if (tag == 2 && !isNumber(content)) {
                throw new Fault(start);
            }
            int wrong = tag == 12 ? wrongSign(content) : -1;
            if (wrong >= 0) {
                throw new Fault(start + wrong);
            }
            int at = start;
            while (tag == 48 && at < start + n) {
                Node part = new Node(row, at, start + n, above + 1);
                parts.add(part);
                at += part.whole.length;
            }
        }

        static Node only(byte[] row) throws Fault {
            Node got = new Node(row, 0, row.length, 0);
            if (got.whole.length < row.length) {
                throw new Fault(got.whole.length);
            }
            return got;
        }

        private static void lacks(int at, int end) throws Fault {
            if (at >= end) {
                throw new Fault(end);
            }
        }

        private static boolean isNumber(byte[] bytes) {
            if (bytes.length < 1 || bytes.length > 4 || bytes[0] < 0) {
                return false;
            }
            return bytes.length == 1 || bytes[0] > 0 || bytes[1] < 0;
        }

        int number() {
            int got = 0;
            for (byte one : content) {
                got = got * 256 + (one & 255);
            }
            return got;
        }

        /** The place of the first byte that can't stand in a NAME, or its end; -1 if it is one. */
        static int wrongSign(byte[] name) {
            boolean label = false;
            for (int i = 0; i < name.length; i++) {
                char sign = (char) (name[i] & 255);
                boolean good = "abcdefghijklmnopqrstuvwxyz0123456789-".indexOf(sign) >= 0;
                if (i == 40 || !good && !(sign == '.' && label)) {
                    return i;
                }
                label = good;
            }
            return label ? -1 : name.length;
        }
    }

    static String signs(byte[] bytes) {
        StringBuilder got = new StringBuilder();
        for (byte one : bytes) {
            got.append((char) (one & 255));
        }
        return got.toString();
    }

    static boolean isName(String name) {
        return name.length() <= 40 && name.matches("[a-z0-9-]+(\\.[a-z0-9-]+)*");
    }

    static boolean isPattern(String name) {
        return isName(name) || name.startsWith("*.") && isName(name.substring(2)) && name.substring(2).contains(".");
    }

    static String base(String pattern) {
        return pattern.startsWith("*.") ? pattern.substring(2) : pattern;
    }

    static final class NoPaper extends RuntimeException {
        private static final long serialVersionUID = 1;
    }

    static final class Paper {
        final byte[] bytes;
        byte[] inner;
        long signature;
        String issuer;
        String subject;
        int serial;
        int number;
        int state;
        int from;
        int to;
        int scheme;
        int point;
        boolean office;
        int depth = NONE;
        int uses = 15;
        final List<List<String>> names = List.of(new ArrayList<>(), new ArrayList<>(), new ArrayList<>());
        final List<Integer> serials = new ArrayList<>();

        private Paper(int kind, byte[] row, Node top) {
            bytes = row;
            need(row.length <= 400 && top.tag == 48 && top.parts.size() == 2);
            Node inside = top.parts.get(0);
            Node mark = top.parts.get(1);
            need(inside.tag == 48 && mark.tag == 4 && mark.content.length == 8);
            inner = inside.whole;
            signature = Own.secretOf(mark.content, 0);
            Iterator<Node> rest = inside.parts.iterator();
            if (kind == 0) {
                serial = next(rest, 2).number();
                need(serial >= 1);
                issuer = signs(next(rest, 12).content);
                subject = signs(next(rest, 12).content);
                times(rest);
                byte[] four = next(rest, 4).content;
                need(four.length == 4);
                point = Own.fourOf(four, 0);
                more(rest);
            } else if (kind == 1) {
                issuer = signs(next(rest, 12).content);
                number = next(rest, 2).number();
                times(rest);
                byte[] fours = next(rest, 4).content;
                need(fours.length % 4 == 0 && fours.length <= 160);
                for (int at = 0; at < fours.length; at += 4) {
                    int one = Own.fourOf(fours, at);
                    need(one >= 1 && (at == 0 || one > serials.get(serials.size() - 1)));
                    serials.add(one);
                }
            } else {
                issuer = signs(next(rest, 12).content);
                serial = next(rest, 2).number();
                state = next(rest, 2).number();
                need(state <= 1);
                times(rest);
            }
            need(!rest.hasNext());
        }

        /** Null: a NODE, but none such. */
        static Paper of(int kind, byte[] row) throws Fault {
            Node top = Node.only(row);
            try {
                return new Paper(kind, row, top);
            } catch (NoPaper no) {
                return null;
            }
        }

        private static void need(boolean good) {
            if (!good) {
                throw new NoPaper();
            }
        }

        private static Node next(Iterator<Node> rest, int tag) {
            need(rest.hasNext());
            Node got = rest.next();
            need(got.tag == tag);
            return got;
        }

        private void times(Iterator<Node> rest) {
            from = next(rest, 2).number();
            to = next(rest, 2).number();
            need(to >= from);
            scheme = next(rest, 2).number();
            need(scheme == 1 || scheme == 2);
        }

        private void more(Iterator<Node> rest) {
            int last = 160;
            while (rest.hasNext()) {
                Node node = rest.next();
                need(node.tag > last && node.tag <= 166);
                last = node.tag;
                byte[] c = node.content;
                if (last == 161) {
                    need(c.length == 0);
                    office = true;
                } else if (last == 162) {
                    need(c.length == 1 && c[0] >= 0 && c[0] <= 6 && office);
                    depth = c[0];
                } else if (last == 163) {
                    need(c.length == 1 && c[0] >= 1 && c[0] <= 15);
                    uses = c[0];
                } else {
                    List<String> row = names.get(last - 164);
                    for (int at = 0; at < c.length;) {
                        need(c[at] == 12 && at + 1 < c.length && c[at + 1] >= 0 && at + 2 + c[at + 1] <= c.length);
                        String name = signs(Own.part(c, at + 2, at + 2 + c[at + 1]));
                        need(last == 164 ? isPattern(name) : isName(name));
                        row.add(name);
                        at += 2 + c[at + 1];
                    }
                    need(row.size() >= 1 && row.size() <= 4);
                }
            }
        }

        boolean is(Paper other) {
            return Arrays.equals(bytes, other.bytes);
        }
    }

    int node() {
        try {
            Node.only(take());
            return 0;
        } catch (Fault fault) {
            return -10 - fault.place;
        }
    }

    int wrap(int s, int x) {
        if (!scheme(s) || !key(x)) {
            return BAD;
        }
        byte[] got = Own.signed(tape, s, x);
        if (got.length > 800) {
            return FULL;
        }
        tape = got;
        return got.length;
    }

    private int held(Paper paper) {
        for (int i = 0; i < certificates.size(); i++) {
            if (certificates.get(i).is(paper)) {
                return i;
            }
        }
        return -1;
    }

    private int hold(int kind, List<Paper> row, int most) {
        int got;
        try {
            Paper paper = Paper.of(kind, tape);
            if (paper == null) {
                got = -9;
            } else if (kind == 0 && held(paper) >= 0) {
                got = held(paper);
            } else if (row.size() == most) {
                return FULL;
            } else {
                row.add(paper);
                got = row.size() - 1;
            }
        } catch (Fault fault) {
            got = -10 - fault.place;
        }
        take();
        return got;
    }

    int certificate() {
        return hold(0, certificates, 30);
    }

    int list() {
        return hold(1, lists, 12);
    }

    int answer() {
        return hold(2, answers, 12);
    }

    private boolean isCertificate(int c) {
        return c >= 0 && c < certificates.size();
    }

    int field(int c, int what) {
        if (!isCertificate(c) || what < 0 || what > 11) {
            return BAD;
        }
        Paper p = certificates.get(c);
        int[] all = {p.serial, p.from, p.to, p.scheme, p.point, p.office ? 1 : 0, p.depth, p.uses, p.names.get(0).size(),
            p.names.get(1).size(), p.names.get(2).size(), p.bytes.length};
        return all[what];
    }

    int text(int c, int what, int k) {
        if (!isCertificate(c)) {
            return BAD;
        }
        Paper p = certificates.get(c);
        if (what == 0 || what == 1) {
            return leave(Own.text(what == 0 ? p.issuer : p.subject));
        }
        if (what == 11) {
            return leave(p.bytes);
        }
        if (what < 8 || what > 10 || k < 0 || k >= p.names.get(what - 8).size()) {
            return BAD;
        }
        return leave(Own.text(p.names.get(what - 8).get(k)));
    }

    // ---- paths

    private boolean fits(Paper c, Paper i) {
        String name = signs(c.bytes) + "|" + i.point;
        return fitting.computeIfAbsent(name, n -> Own.fits(c.scheme, i.point, c.signature, c.inner));
    }

    private static boolean under(String name, String over) {
        String n = base(name);
        return n.equals(over) || n.endsWith("." + over);
    }

    private static boolean meets(String name, String pattern) {
        int point = name.indexOf('.');
        return name.equals(pattern)
            || pattern.startsWith("*.") && point >= 0 && name.substring(point + 1).equals(pattern.substring(2));
    }

    private int standing(Paper c, Paper i, int when, Paper staple) {
        List<Paper> row = new ArrayList<>(answers);
        if (staple != null) {
            row.add(staple);
        }
        for (int k = row.size() - 1; k >= 0; k--) {
            if (counts(row.get(k), c, i, when) && row.get(k).serial == c.serial) {
                return row.get(k).state;
            }
        }
        Paper best = null;
        for (Paper one : lists) {
            if (counts(one, c, i, when) && (best == null || one.number >= best.number)) {
                best = one;
            }
        }
        return best == null ? 2 : best.serials.contains(c.serial) ? 1 : 0;
    }

    private boolean counts(Paper one, Paper c, Paper i, int when) {
        return one.issuer.equals(c.issuer) && one.from <= when && when <= one.to && (i.uses & 8) != 0 && fits(one, i);
    }

    private boolean isPath(List<Paper> path, End end) {
        for (int i = 0; i < path.size(); i++) {
            for (int j = 0; j < i; j++) {
                if (path.get(i).is(path.get(j))) {
                    return false;
                }
            }
            if (i > 0 && !path.get(i - 1).issuer.equals(path.get(i).subject)) {
                return false;
            }
        }
        return end.trusts(path.get(path.size() - 1));
    }

    private int why(List<Paper> path, End end, int when, int use, Paper staple) {
        int k = path.size() - 1;
        for (int i = 0; i <= k; i++) {
            int got = whyOf(path, i, end, when, use, staple);
            if (got != 0) {
                return got + 100 * i;
            }
        }
        return 0;
    }

    private int whyOf(List<Paper> path, int i, End end, int when, int use, Paper staple) {
        Paper c = path.get(i);
        boolean below = i < path.size() - 1;
        if (below && !fits(c, path.get(i + 1))) {
            return 1;
        }
        if (below && when < c.from) {
            return 2;
        }
        if (below && when > c.to) {
            return 3;
        }
        if (i > 0 && !c.office) {
            return 4;
        }
        int need = i == 0 ? use : 4;
        if ((c.uses & need) != need) {
            return 5;
        }
        if (i > 0 && c.depth != NONE && c.depth < i - 1) {
            return 6;
        }
        for (int j = 0; j < i; j++) {
            for (String name : path.get(j).names.get(0)) {
                boolean good = c.names.get(1).isEmpty() || c.names.get(1).stream().anyMatch(p -> under(name, p));
                if (!good || c.names.get(2).stream().anyMatch(p -> under(name, p))) {
                    return 7;
                }
            }
        }
        int standing = below ? standing(c, path.get(i + 1), when, staple) : 0;
        return standing == 1 ? 8 : standing == 2 && end.settings[0] == 1 ? 9 : 0;
    }

    int row(int c) {
        if (!isCertificate(c)) {
            return BAD;
        }
        if (row.size() == 6) {
            return FULL;
        }
        row.add(c);
        return row.size();
    }

    private List<Paper> papers(List<Integer> numbers) {
        List<Paper> got = new ArrayList<>();
        for (int one : numbers) {
            got.add(certificates.get(one));
        }
        return got;
    }

    int judge(int e, int when, int use) {
        if (!isEnd(e) || use < 0 || use > 2 || row.isEmpty()) {
            return BAD;
        }
        List<Paper> path = papers(row);
        row.clear();
        return isPath(path, ends.get(e)) ? why(path, ends.get(e), when, use, null) : -5;
    }

    int build(int e, int c, int when, int use) {
        if (!isEnd(e) || !isCertificate(c) || use < 0 || use > 2) {
            return BAD;
        }
        row = new ArrayList<>();
        for (int k = 0; k <= 3 && row.isEmpty(); k++) {
            List<Integer> got = longer(new ArrayList<>(List.of(c)), k, e, when, use);
            row = got == null ? new ArrayList<>() : got;
        }
        return row.size();
    }

    private List<Integer> longer(List<Integer> path, int more, int e, int when, int use) {
        List<Paper> papers = papers(path);
        if (more == 0) {
            return isPath(papers, ends.get(e)) && why(papers, ends.get(e), when, use, null) == 0 ? path : null;
        }
        for (int next = 0; next < certificates.size(); next++) {
            if (certificates.get(next).subject.equals(papers.get(papers.size() - 1).issuer) && !path.contains(next)) {
                List<Integer> further = new ArrayList<>(path);
                further.add(next);
                List<Integer> got = longer(further, more - 1, e, when, use);
                if (got != null) {
                    return got;
                }
            }
        }
        return null;
    }

    int step(int i) {
        return i == -1 ? row.size() : i < 0 || i >= row.size() ? BAD : row.get(i);
    }

    int status(int c, int i, int when) {
        return isCertificate(c) && isCertificate(i) ? standing(certificates.get(c), certificates.get(i), when, null) : BAD;
    }

    // ---- ends

    static final class Shared {
        final byte[] id;
        final int h;
        final long secret;
        boolean ticket;
        int life;
        int early;
        int suite;
        int came;
        boolean taken;

        Shared(byte[] id, int h, long secret) {
            this.id = id;
            this.h = h;
            this.secret = secret;
        }
    }

    static final class End {
        final boolean server;
        final List<List<Integer>> offers = new ArrayList<>(List.of(List.of(1, 2, 3), List.of(1, 2, 3), List.of(1, 2)));
        final int[] settings = {0, 0, 1, 60, 0, 1, 0, 2};
        byte[] random = {};
        final List<Paper> anchors = new ArrayList<>();
        List<Paper> identity = new ArrayList<>();
        int key;
        String host;
        final List<Shared> secrets = new ArrayList<>();
        byte[] early = {};
        final List<Shared> book = new ArrayList<>();
        long ticketSecret;
        int given;

        End(boolean server) {
            this.server = server;
        }

        boolean trusts(Paper c) {
            return anchors.stream().anyMatch(a -> a.is(c));
        }

        byte[] draw(int n) {
            byte[] got = Arrays.copyOf(random, n);
            random = random.length <= n ? new byte[0] : Own.part(random, n, random.length);
            return got;
        }

        int drawX() {
            return 2 + (Own.fourOf(draw(4), 0) & 0x3fffffff);
        }

        /** The first of its own that a row of bytes has; 0 without. */
        int first(int what, byte[] row) {
            for (int one : offers.get(what)) {
                if (has(row, one)) {
                    return one;
                }
            }
            return 0;
        }

        byte[] offered(int what) {
            return Own.bytes(offers.get(what).stream().mapToInt(i -> i).toArray());
        }
    }

    static boolean has(byte[] row, int value) {
        for (int i = 0; row != null && i < row.length; i++) {
            if ((row[i] & 255) == value) {
                return true;
            }
        }
        return false;
    }

    private boolean isEnd(int e) {
        return e >= 0 && e < ends.size();
    }

    private boolean isClient(int e) {
        return isEnd(e) && !ends.get(e).server;
    }

    int end(int role) {
        if (role != 0 && role != 1) {
            return BAD;
        }
        if (ends.size() == 8) {
            return FULL;
        }
        ends.add(new End(role == 1));
        return ends.size() - 1;
    }

    int offer(int e, int what, int told) {
        if (!isEnd(e) || what < 0 || what > 2) {
            return BAD;
        }
        List<Integer> got = new ArrayList<>();
        for (byte one : Own.four(told)) {
            if (one != 0 && (got.contains(one & 255) || (one & 255) > (what == 2 ? 2 : 3))) {
                return BAD;
            }
            if (one != 0) {
                got.add(one & 255);
            }
        }
        if (got.isEmpty()) {
            return BAD;
        }
        ends.get(e).offers.set(what, got);
        return got.size();
    }

    int setting(int e, int what, int v) {
        int[] most = {1, 2, 3, 10000, 400, 1, 1, 100};
        if (!isEnd(e) || what < 0 || what > 7 || v < 0 || v > most[what]) {
            return BAD;
        }
        boolean ofServer = what >= 1 && what <= 4 || what == 7;
        if (ofServer && !ends.get(e).server || what == 5 && ends.get(e).server) {
            return BAD;
        }
        int was = ends.get(e).settings[what];
        ends.get(e).settings[what] = v;
        return was;
    }

    int random(int e) {
        if (!isEnd(e)) {
            return BAD;
        }
        if (ends.get(e).random.length + tape.length > 200) {
            return FULL;
        }
        ends.get(e).random = Own.cat(ends.get(e).random, take());
        return ends.get(e).random.length;
    }

    int trust(int e, int c) {
        if (!isEnd(e) || !isCertificate(c)) {
            return BAD;
        }
        if (!ends.get(e).trusts(certificates.get(c))) {
            ends.get(e).anchors.add(certificates.get(c));
        }
        return ends.get(e).anchors.size();
    }

    int identity(int e, int x) {
        if (!isEnd(e) || !key(x)) {
            return BAD;
        }
        if (row.isEmpty() || row.size() > 4 || certificates.get(row.get(0)).point != Own.keyPoint(x)) {
            return NO;
        }
        ends.get(e).identity = papers(row);
        ends.get(e).key = x;
        row.clear();
        return ends.get(e).identity.size();
    }

    int host(int e) {
        if (!isClient(e)) {
            return BAD;
        }
        if (!isName(signs(tape))) {
            return NO;
        }
        ends.get(e).host = signs(take());
        return 1;
    }

    int shared(int e, int h, long secret) {
        if (!isEnd(e) || !hash(h)) {
            return BAD;
        }
        if (tape.length < 1 || tape.length > 16) {
            return NO;
        }
        if (ends.get(e).secrets.size() == 6) {
            return FULL;
        }
        ends.get(e).secrets.add(new Shared(take(), h, secret));
        return ends.get(e).secrets.size();
    }

    int forget(int e, int k) {
        if (!isEnd(e) || k < 0 || k >= ends.get(e).secrets.size()) {
            return BAD;
        }
        ends.get(e).secrets.remove(k);
        return ends.get(e).secrets.size();
    }

    int ticket(int e, int k, int what) {
        if (!isEnd(e) || k < 0 || k >= ends.get(e).secrets.size() || what < 0 || what > 5) {
            return BAD;
        }
        Shared s = ends.get(e).secrets.get(k);
        out = s.id;
        int[] all = {s.h, s.life, s.early, s.suite, s.came, s.ticket ? 1 : 0};
        return all[what];
    }

    int early(int e) {
        if (!isClient(e)) {
            return BAD;
        }
        if (tape.length > 400) {
            return NO;
        }
        ends.get(e).early = take();
        return ends.get(e).early.length;
    }

    // ---- lines

    static final class Alert extends RuntimeException {
        private static final long serialVersionUID = 1;
        final int number;

        Alert(int number) {
            super(null, null, false, false);
            this.number = number;
        }
    }

    private static void wrong(boolean is, int alert) {
        if (is) {
            throw new Alert(alert);
        }
    }

    /** What a side that plays another's part may change in what it puts; the usual one changes nothing. */
    static class Twist {
        void fields(int type, TreeMap<Integer, byte[]> fields) {
        }

        byte[] body(int type, byte[] body) {
            return body;
        }

        /** Behind the message's bytes in its last RECORD. */
        byte[] behind(int type) {
            return new byte[0];
        }
    }

    /** The Twin, of which a side needs TIME and what is held, is the one around it. */
    final class Side {
        final End end;
        Twist twist = new Twist();
        byte[] line = {};
        byte[] record = {};
        byte[] pending = {};
        byte[] heard = {};
        final int[] told = new int[15];
        Long writing;
        Long reading;
        int writeSuite;
        Long early;
        Long hand;
        Long master;
        Long export;
        Long next;
        long c;
        long s;
        long sayC;
        long sayS;
        byte[] messages = {};
        boolean dropping;
        String place;
        int otherPoint;
        /** Whether the key for reading changes behind the message that was looked at. */
        boolean turns;
        // of a client
        byte[] random;
        int x;
        int group;
        int modes;
        List<Shared> put = new ArrayList<>();
        boolean earlyPut;
        boolean retried;
        int chosen = -1;
        byte[] asked;
        // of a server
        byte[] first;
        byte[] cookie;
        int retryGroup;
        Shared used;
        int earlyCount;

        Side(End end) {
            this.end = end;
            told[6] = NONE;
            told[7] = NONE;
            place = end.server ? "hello" : "answer";
        }

        int h() {
            return Own.hashOf(told[1]);
        }

        long digest() {
            return Own.digest(h(), messages);
        }

        long derive(long k, int letter, long d) {
            return Own.derived(h(), k, letter, d);
        }

        boolean maySay() {
            return told[0] == 1 && told[8] == 0;
        }

        // -- what is put

        void putRecord(int kind, byte[] content) {
            if (writing == null) {
                line = Own.cat(line, Own.bytes(kind), Own.two(content.length), content);
                return;
            }
            byte[] text = Own.cat(content, Own.bytes(kind));
            byte[] head = Own.cat(Own.bytes(23), Own.two(text.length + Own.tagSize(writeSuite)));
            line = Own.cat(line, head, Own.seal(writeSuite, writing, told[10], head, text));
            told[10]++;
        }

        void putRecords(int kind, byte[] bytes) {
            for (int at = 0; at < bytes.length; at += 200) {
                putRecord(kind, Own.part(bytes, at, Math.min(bytes.length, at + 200)));
            }
        }

        void putMessage(int type, byte[]... rows) {
            byte[] body = twist.body(type, Own.cat(rows));
            byte[] message = Own.cat(Own.bytes(type), Own.two(body.length), body);
            note(message);
            putRecords(22, Own.cat(message, twist.behind(type)));
        }

        void note(byte[] message) {
            int type = message[0] & 255;
            if (type >= 1 && type <= 20 && type != 4) {
                messages = Own.cat(messages, message);
            }
        }

        byte[] fieldsOf(int type, TreeMap<Integer, byte[]> fields) {
            twist.fields(type, fields);
            return Peer.rows(fields);
        }

        void putAlert(int alert) {
            told[6] = alert;
            putRecord(21, Own.bytes(alert));
        }

        void write(long key) {
            writing = key;
            writeSuite = told[1];
            told[10] = 0;
        }

        void read(long key) {
            reading = key;
            told[11] = 0;
        }

        // -- what comes

        void come(byte[] bytes) {
            for (byte one : bytes) {
                if (told[0] == 2 || told[9] == 1) {
                    return;
                }
                record = Own.cat(record, new byte[] {one});
                try {
                    look();
                } catch (Alert alert) {
                    putAlert(alert.number);
                    told[0] = 2;
                }
            }
        }

        private void look() {
            if (record.length < 3) {
                return;
            }
            int kind = record[0] & 255;
            int n = (record[1] & 255) * 256 + (record[2] & 255);
            wrong(kind < 21 || kind > 23, 10);
            wrong(n > 300, 22);
            if (record.length < 3 + n) {
                return;
            }
            byte[] head = Own.part(record, 0, 3);
            byte[] content = Own.part(record, 3, 3 + n);
            record = new byte[0];
            takeRecord(kind, head, content);
            while (pending.length >= 3 && told[0] != 2 && told[9] == 0) {
                int size = (pending[1] & 255) * 256 + (pending[2] & 255);
                wrong(size > 2500, 50);
                if (pending.length < 3 + size) {
                    return;
                }
                takeMessage(Own.part(pending, 0, 3 + size), pending.length - 3 - size);
                pending = Own.part(pending, 3 + size, pending.length);
            }
        }

        private void takeRecord(int kind, byte[] head, byte[] content) {
            int n = content.length;
            boolean drops = dropping && told[14] + n <= 600;
            wrong(kind == 23 && reading == null && !drops, 10);
            wrong(kind != 23 && reading != null, 10);
            wrong(n == 0 || kind == 21 && n != 1, 50);
            byte[] bears = content;
            int inside = kind;
            if (kind == 23) {
                boolean longEnough = reading != null && n > Own.tagSize(told[1]);
                byte[] text = longEnough ? Own.unseal(told[1], reading, told[11], head, content) : null;
                if (text == null) {
                    wrong(!drops, 20);
                    told[14] += n;
                    return;
                }
                dropping = false;
                told[11]++;
                inside = text[text.length - 1] & 255;
                bears = Own.part(text, 0, text.length - 1);
            }
            if (inside == 21) {
                wrong(bears.length != 1, 50);
                told[7] = bears[0] & 255;
                told[told[7] == 0 ? 9 : 0] = told[7] == 0 ? 1 : 2;
            } else if (inside == 22) {
                wrong(bears.length == 0, 50);
                pending = Own.cat(pending, bears);
            } else {
                wrong(inside != 23, 10);
                hearBytes(bears);
            }
        }

        private void hearBytes(byte[] bytes) {
            boolean early = place.equals("earlys end");
            wrong(!place.equals("open") && !early, 10);
            earlyCount += bytes.length;
            wrong(early && earlyCount > end.settings[4], 10);
            heard = Own.cat(heard, Own.part(bytes, 0, Math.min(bytes.length, 2000 - heard.length)));
        }

        private void takeMessage(byte[] message, int behind) {
            int type = message[0] & 255;
            byte[] body = Own.part(message, 3, message.length);
            wrong(!may(type), 10);
            turns = type == 24;
            Runnable act = end.server ? serverLooks(type, body, message) : clientLooks(type, body, message);
            wrong(turns && behind > 0, 10);
            told[13]++;
            act.run();
        }

        private boolean may(int type) {
            switch (place) {
                case "answer":
                    return type == 2 || type == 6 && !retried;
                case "beginning":
                    return type == 8;
                case "asking":
                    return type == 13 || type == 11;
                case "chain":
                    return type == 11;
                case "proof":
                    return type == 15;
                case "end":
                    return type == 20;
                case "hello":
                    return type == 1;
                case "earlys end":
                    return type == 5;
                default:
                    return type == 24 || type == 4 && !end.server;
            }
        }

        // -- what both look at

        /** The FIELDS of a BODY behind its head. */
        TreeMap<Integer, byte[]> fields(byte[] body, int from, int type) {
            TreeMap<Integer, byte[]> got = new TreeMap<>();
            int last = -1;
            for (int at = from; at < body.length;) {
                int kind = body[at] & 255;
                wrong(kind <= last || type == 1 && last == 10, 47);
                wrong(at + 3 > body.length, 50);
                int n = (body[at + 1] & 255) * 256 + (body[at + 2] & 255);
                wrong(at + 3 + n > body.length, 50);
                byte[] field = Own.part(body, at + 3, at + 3 + n);
                wrong(!isAsTold(type, kind, field), 50);
                got.put(kind, field);
                last = kind;
                at += 3 + n;
            }
            return got;
        }

        private boolean isAsTold(int type, int kind, byte[] field) {
            int n = field.length;
            switch (1000 * type + kind) {
                case 1001:
                case 1002:
                case 1003:
                case 1005:
                case 13005:
                    return n >= 1;
                case 1004:
                case 2004:
                    return n == 5;
                case 1006:
                    return isName(signs(field));
                case 1007:
                    return n == 1 && field[0] >= 1 && field[0] <= 3;
                case 1008:
                case 8008:
                    return n == 0;
                case 1009:
                case 6009:
                    return n == 8;
                case 6003:
                case 2010:
                    return n == 1;
                case 1010:
                    return told(field) != null;
                default:
                    return true;
            }
        }

        /** The ids, then the ages, of SHARED; null if it is not as told. */
        List<byte[]> told(byte[] field) {
            int n = field.length == 0 ? 0 : field[0] & 255;
            List<byte[]> ids = new ArrayList<>();
            List<byte[]> ages = new ArrayList<>();
            int at = 1;
            for (int i = 0; i < n; i++) {
                int size = at < field.length ? field[at] & 255 : 0;
                if (size < 1 || size > 16 || at + 1 + size + 4 > field.length) {
                    return null;
                }
                ids.add(Own.part(field, at + 1, at + 1 + size));
                ages.add(Own.part(field, at + 1 + size, at + 5 + size));
                at += 5 + size;
            }
            ids.addAll(ages);
            return n == 0 || at + 8 * n != field.length ? null : ids;
        }

        private void others(TreeMap<Integer, byte[]> fields, int... kinds) {
            for (int kind : fields.keySet()) {
                wrong(Arrays.stream(kinds).noneMatch(one -> one == kind), 110);
            }
        }

        private Runnable chain(byte[] body) {
            List<byte[]> rows = new ArrayList<>();
            wrong(body.length == 0 || (body[0] & 255) > 4, 50);
            int n = body[0];
            int at = 1;
            for (int i = 0; i <= n; i++) {
                wrong(at + 2 > body.length, 50);
                int size = (body[at] & 255) * 256 + (body[at + 1] & 255);
                wrong(at + 2 + size > body.length, 50);
                rows.add(Own.part(body, at + 2, at + 2 + size));
                at += 2 + size;
            }
            wrong(at != body.length, 50);
            wrong(!end.server && n == 0, 50);
            List<Paper> path = new ArrayList<>();
            for (int i = 0; i < n; i++) {
                path.add(paper(0, rows.get(i), 42));
            }
            boolean stapled = rows.get(n).length > 0;
            wrong(end.server && n == 0 && end.settings[1] == 2, 116);
            wrong(end.server && stapled, 50);
            Paper staple = stapled ? paper(2, rows.get(n), 113) : null;
            if (n > 0) {
                Paper last = path.get(n - 1);
                if (!end.trusts(last)) {
                    Paper anchor = end.anchors.stream().filter(a -> a.subject.equals(last.issuer)).findFirst().orElse(null);
                    wrong(anchor == null, 48);
                    path.add(anchor);
                }
                wrong(!isPath(path, end), 42);
                int why = why(path, end, time, end.server ? 2 : 1, staple) % 100;
                int[] alerts = {0, 42, 45, 45, 46, 46, 46, 46, 44, 113};
                wrong(why != 0, alerts[why]);
                if (!end.server && end.host != null) {
                    wrong(path.get(0).names.get(0).stream().noneMatch(name -> meets(end.host, name)), 42);
                }
            }
            return () -> {
                told[12] = n;
                otherPoint = n > 0 ? path.get(0).point : 0;
                place = n > 0 ? "proof" : "end";
            };
        }

        private Paper paper(int kind, byte[] row, int alert) {
            try {
                Paper got = Paper.of(kind, row);
                wrong(got == null, alert);
                return got;
            } catch (Fault fault) {
                throw new Alert(alert);
            }
        }

        private Runnable proof(byte[] body, int letter) {
            wrong(body.length != 9, 50);
            int scheme = body[0] & 255;
            wrong(!end.offers.get(2).contains(scheme), 47);
            wrong(!Own.fits(scheme, otherPoint, Own.secretOf(body, 1), Own.bytes(letter), Own.secret(digest())), 51);
            return () -> {
                told[3] = end.server ? told[3] : scheme;
                place = "end";
            };
        }

        private byte[] proven(int letter, int scheme) {
            return Own.cat(Own.bytes(scheme), Own.secret(Own.sign(scheme, end.key, Own.bytes(letter), Own.secret(digest()))));
        }

        private byte[] endBy(long key) {
            return Own.secret(Own.keyed(h(), derive(key, 'f', 0), Own.secret(digest())));
        }

        private void wantEnd(byte[] body, long key) {
            wrong(body.length != 8, 50);
            wrong(!Arrays.equals(body, endBy(key)), 51);
        }

        private Runnable newKeys(byte[] body) {
            wrong(body.length != 1, 50);
            wrong(body[0] != 0 && body[0] != 1, 47);
            return () -> {
                read(derive(reading, 'u', 0));
                if (body[0] == 1 && told[8] == 0) {
                    renew(0);
                }
            };
        }

        void renew(int ask) {
            putMessage(24, Own.bytes(ask));
            int suite = writeSuite;
            write(derive(writing, 'u', 0));
            writeSuite = suite;
        }

        private void makeHand(long secret, long joint) {
            early = Own.keyed(h(), 0, Own.secret(secret));
            hand = Own.keyed(h(), derive(early, 'd', 0), Own.secret(joint));
            c = derive(hand, 'c', digest());
            s = derive(hand, 's', digest());
        }

        private void makeMaster() {
            master = Own.keyed(h(), derive(hand, 'd', 0), Own.secret(0));
            export = derive(master, 'x', digest());
            sayC = derive(master, 'C', digest());
            sayS = derive(master, 'S', digest());
        }

        private void shorten() {
            messages = Own.cat(Own.bytes(254, 0, 8), Own.secret(digest()));
        }

        private byte[] chainOf(int n, byte[] staple) {
            byte[][] rows = new byte[n][];
            for (int i = 0; i < n; i++) {
                rows[i] = end.identity.get(i).bytes;
            }
            return Peer.chain(staple, rows);
        }

        // -- a CLIENT

        void greet() {
            random = end.draw(8);
            for (Shared one : end.secrets) {
                if (end.offers.get(0).stream().anyMatch(suite -> Own.hashOf(suite) == one.h)) {
                    put.add(one);
                }
            }
            modes = put.isEmpty() ? 0 : end.settings[6] == 1 ? 3 : 2;
            Shared one = put.isEmpty() ? null : put.get(0);
            earlyPut = end.early.length > 0 && one != null && one.ticket && one.early >= end.early.length;
            putHello(end.settings[5] == 1 ? end.offers.get(1).get(0) : 0, null);
            if (earlyPut) {
                long key = Own.derived(one.h, Own.keyed(one.h, 0, Own.secret(one.secret)), 'e', Own.digest(one.h, messages));
                write(key);
                writeSuite = one.suite;
                putRecords(23, end.early);
            }
            end.early = new byte[0];
        }

        private void putHello(int ofGroup, byte[] ofCookie) {
            TreeMap<Integer, byte[]> fields = new TreeMap<>();
            fields.put(1, Own.bytes(4));
            fields.put(2, end.offered(0));
            fields.put(3, end.offered(1));
            group = ofGroup;
            if (group != 0) {
                x = end.drawX();
                fields.put(4, Own.cat(Own.bytes(group), Own.four(Own.point(group, x))));
            }
            fields.put(5, end.offered(2));
            if (end.host != null) {
                fields.put(6, Own.text(end.host));
            }
            if (modes != 0) {
                fields.put(7, Own.bytes(modes));
            }
            if (earlyPut) {
                fields.put(8, new byte[0]);
            }
            if (ofCookie != null) {
                fields.put(9, ofCookie);
            }
            byte[] body = Own.cat(random, fieldsOf(1, fields));
            if (!put.isEmpty()) {
                byte[] list = Own.bytes(put.size());
                for (Shared one : put) {
                    list = Own.cat(list, Own.bytes(one.id.length), one.id, Own.four(one.ticket ? time - one.came : 0));
                }
                body = Own.cat(body, Own.bytes(10), Own.two(list.length + 8 * put.size()), list);
                byte[] head = Own.cat(Own.bytes(1), Own.two(body.length + 8 * put.size()));
                byte[] counted = Own.cat(messages, head, body);
                for (Shared one : put) {
                    body = Own.cat(body, Own.secret(Peer.binder(one.h, one.secret, counted)));
                }
            }
            putMessage(1, body);
        }

        private Runnable clientLooks(int type, byte[] body, byte[] message) {
            switch (type) {
                case 2:
                    return clientAnswer(body, message);
                case 6:
                    return clientRetry(body, message);
                case 8: {
                    TreeMap<Integer, byte[]> fields = fields(body, 0, 8);
                    others(fields, 8);
                    boolean taken = fields.containsKey(8);
                    wrong(taken && !earlyPut, 110);
                    wrong(taken && chosen != 0, 47);
                    return () -> {
                        note(message);
                        told[5] = taken ? 1 : 0;
                        if (earlyPut && !taken) {
                            write(c);
                        }
                        place = chosen >= 0 ? "end" : "asking";
                    };
                }
                case 13: {
                    TreeMap<Integer, byte[]> fields = fields(body, 0, 13);
                    others(fields, 5);
                    wrong(!fields.containsKey(5), 109);
                    return () -> {
                        note(message);
                        asked = fields.get(5);
                        place = "chain";
                    };
                }
                case 11:
                    return then(message, chain(body));
                case 15:
                    return then(message, proof(body, 'S'));
                case 20:
                    turns = true;
                    wantEnd(body, s);
                    return () -> {
                        note(message);
                        clientEnds();
                    };
                case 4:
                    wrong(body.length != 17, 50);
                    return () -> clientTicket(body);
                default:
                    return newKeys(body);
            }
        }

        private Runnable then(byte[] message, Runnable act) {
            return () -> {
                note(message);
                act.run();
            };
        }

        private Runnable clientAnswer(byte[] body, byte[] message) {
            turns = true;
            wrong(body.length < 9, 50);
            TreeMap<Integer, byte[]> fields = fields(body, 9, 2);
            others(fields, 4, 10);
            int suite = body[8] & 255;
            wrong(!end.offers.get(0).contains(suite), 47);
            wrong(retried && suite != told[1], 47);
            int which = fields.containsKey(10) ? fields.get(10)[0] & 255 : -1;
            wrong(which >= put.size(), 47);
            wrong(which >= 0 && put.get(which).h != Own.hashOf(suite), 47);
            byte[] share = fields.get(4);
            wrong(share == null && which < 0, 109);
            wrong(share == null && (modes & 1) == 0, 47);
            wrong(share != null && (group == 0 || (share[0] & 255) != group), 47);
            long joint = share == null ? 0 : Own.joint(group, x, Own.fourOf(share, 1));
            wrong(share != null && joint == 0, 47);
            return () -> {
                told[1] = suite;
                note(message);
                chosen = which;
                told[2] = share == null ? 0 : group;
                told[4] = which < 0 ? 0 : put.get(which).ticket ? 2 : 1;
                makeHand(which < 0 ? 0 : put.get(which).secret, joint);
                read(s);
                if (!earlyPut) {
                    write(c);
                }
                place = "beginning";
            };
        }

        private Runnable clientRetry(byte[] body, byte[] message) {
            wrong(body.length < 1, 50);
            TreeMap<Integer, byte[]> fields = fields(body, 1, 6);
            others(fields, 3, 9);
            int suite = body[0] & 255;
            wrong(!end.offers.get(0).contains(suite), 47);
            wrong(!fields.containsKey(3), 47);
            int wanted = fields.get(3)[0] & 255;
            wrong(!end.offers.get(1).contains(wanted) || wanted == group, 47);
            return () -> {
                told[1] = suite;
                shorten();
                note(message);
                retried = true;
                earlyPut = false;
                writing = null;
                told[10] = 0;
                List<Shared> left = new ArrayList<>();
                for (Shared one : put) {
                    if (one.h == h()) {
                        left.add(one);
                    }
                }
                put = left;
                putHello(wanted, fields.get(9));
            };
        }

        private void clientEnds() {
            makeMaster();
            read(sayS);
            if (told[5] == 1) {
                putMessage(5);
                write(c);
            }
            if (asked != null) {
                int scheme = end.identity.isEmpty() ? 0 : end.first(2, asked);
                putMessage(11, chainOf(scheme == 0 ? 0 : end.identity.size(), new byte[0]));
                if (scheme != 0) {
                    putMessage(15, proven('C', scheme));
                }
            }
            putMessage(20, endBy(c));
            next = derive(master, 'r', digest());
            write(sayC);
            told[0] = 1;
            place = "open";
        }

        private void clientTicket(byte[] body) {
            if (end.secrets.size() < 6) {
                Shared ticket = new Shared(Own.part(body, 8, 16), h(), derive(next, 't', body[16] & 255));
                ticket.ticket = true;
                ticket.life = Own.fourOf(body, 0);
                ticket.early = Own.fourOf(body, 4);
                ticket.suite = told[1];
                ticket.came = time;
                end.secrets.add(ticket);
            }
        }

        // -- a SERVER

        private Runnable serverLooks(int type, byte[] body, byte[] message) {
            switch (type) {
                case 1:
                    return serverHello(body, message);
                case 5:
                    turns = true;
                    wrong(body.length != 0, 50);
                    return () -> {
                        note(message);
                        read(c);
                        place = "end";
                    };
                case 11:
                    return then(message, chain(body));
                case 15:
                    return then(message, proof(body, 'C'));
                case 20:
                    turns = true;
                    wantEnd(body, c);
                    return () -> {
                        note(message);
                        next = derive(master, 'r', digest());
                        read(sayC);
                        told[0] = 1;
                        place = "open";
                        for (int i = 0; i < end.settings[2]; i++) {
                            giveTicket(i);
                        }
                    };
                default:
                    return newKeys(body);
            }
        }

        private void giveTicket(int which) {
            if (end.given == 0) {
                end.ticketSecret = Own.secretOf(end.draw(8), 0);
            }
            long id = Own.derived(0, end.ticketSecret, 'n', end.given);
            end.given++;
            Shared ticket = new Shared(Own.secret(id), h(), derive(next, 't', which));
            ticket.ticket = true;
            ticket.life = end.settings[3];
            ticket.suite = told[1];
            ticket.came = time;
            end.book.add(ticket);
            if (end.book.size() > 20) {
                end.book.remove(0);
            }
            putMessage(4, Own.four(end.settings[3]), Own.four(end.settings[4]), Own.secret(id), Own.bytes(which));
        }

        private Shared knows(byte[] id, int h) {
            for (Shared one : end.secrets) {
                if (one.h == h && Arrays.equals(one.id, id)) {
                    return one;
                }
            }
            for (Shared one : end.book) {
                if (one.h == h && Arrays.equals(one.id, id) && time - one.came <= one.life) {
                    return one;
                }
            }
            return null;
        }

        private void sameAgain(byte[] body, TreeMap<Integer, byte[]> fields) {
            TreeMap<Integer, byte[]> before = fields(first, 8, 1);
            int[] kinds = {1, 2, 3, 5, 6, 7};
            for (int kind : kinds) {
                wrong(!Arrays.equals(fields.get(kind), before.get(kind)), 47);
            }
            wrong(!Arrays.equals(Own.part(body, 0, 8), Own.part(first, 0, 8)), 47);
            wrong(fields.containsKey(8), 47);
            wrong(!Arrays.equals(fields.get(9), cookie), 47);
            wrong(!fields.containsKey(4) || fields.get(4)[0] != retryGroup, 47);
        }

        private Runnable serverHello(byte[] body, byte[] message) {
            wrong(body.length < 8, 50);
            TreeMap<Integer, byte[]> fields = fields(body, 8, 1);
            wrong(!has(fields.get(1), 4), 70);
            if (first != null) {
                sameAgain(body, fields);
            }
            wrong(!fields.containsKey(2), 109);
            int suite = first != null ? told[1] : end.first(0, fields.get(2));
            wrong(suite == 0, 40);
            wrong(fields.containsKey(10) && !fields.containsKey(7), 109);
            List<byte[]> rows = fields.containsKey(10) ? told(fields.get(10)) : List.of();
            int n = rows.size() / 2;
            Shared known = null;
            int which = 0;
            for (int i = 0; i < n && known == null; i++) {
                known = knows(rows.get(i), Own.hashOf(suite));
                which = i;
            }
            if (known != null) {
                byte[] counted = Own.cat(messages, Own.part(message, 0, message.length - 8 * n));
                long due = Peer.binder(known.h, known.secret, counted);
                wrong(Own.secretOf(message, message.length - 8 * (n - which)) != due, 51);
            }
            int ways = fields.containsKey(7) ? fields.get(7)[0] : 0;
            wrong(!fields.containsKey(3) && !(known != null && ways == 1), 109);
            int ofGroup = first != null ? retryGroup : end.first(1, fields.get(3));
            boolean with = known != null && (ways & 2) != 0 && ofGroup != 0;
            boolean without = known != null && !with && (ways & 1) != 0 && end.settings[6] == 1;
            used = with || without ? known : null;
            int scheme = 0;
            if (used == null) {
                wrong(ofGroup == 0, 40);
                wrong(!fields.containsKey(5), 109);
                scheme = end.first(2, fields.get(5));
                wrong(scheme == 0 || end.identity.isEmpty(), 40);
            }
            byte[] share = fields.get(4);
            if (!without && (share == null || share[0] != ofGroup)) {
                return () -> serverRetries(suite, ofGroup, body, message, fields.containsKey(8));
            }
            turns = true;
            byte[] drawn = end.draw(8);
            int number = without ? 0 : end.drawX();
            long joint = without ? 0 : Own.joint(ofGroup, number, Own.fourOf(share, 1));
            wrong(!without && joint == 0, 47);
            int at = which;
            int ofScheme = scheme;
            return () -> {
                told[1] = suite;
                note(message);
                long behindHello = digest();
                TreeMap<Integer, byte[]> answer = new TreeMap<>();
                if (!without) {
                    answer.put(4, Own.cat(Own.bytes(ofGroup), Own.four(Own.point(ofGroup, number))));
                }
                if (used != null) {
                    answer.put(10, Own.bytes(at));
                }
                putMessage(2, drawn, Own.bytes(suite), fieldsOf(2, answer));
                told[2] = without ? 0 : ofGroup;
                told[3] = ofScheme;
                told[4] = used == null ? 0 : used.ticket ? 2 : 1;
                makeHand(used == null ? 0 : used.secret, joint);
                write(s);
                int age = used != null ? Own.fourOf(rows.get(n + at), 0) : 0;
                boolean taken = fields.containsKey(8) && first == null && used != null && at == 0 && used.ticket && used.suite == suite
                    && !used.taken && end.settings[4] > 0 && Math.abs((long) age - (time - used.came)) <= end.settings[7];
                serverGoesOn(taken, fields.containsKey(8), behindHello);
            };
        }

        private void serverRetries(int suite, int ofGroup, byte[] body, byte[] message, boolean hadEarly) {
            told[1] = suite;
            note(message);
            shorten();
            first = body;
            retryGroup = ofGroup;
            cookie = Own.secret(Own.derived(0, 0, 'k', Own.digest(0, body)));
            dropping = hadEarly;
            TreeMap<Integer, byte[]> fields = new TreeMap<>();
            fields.put(3, Own.bytes(ofGroup));
            fields.put(9, cookie);
            putMessage(6, Own.bytes(suite), fieldsOf(6, fields));
        }

        private void serverGoesOn(boolean taken, boolean hadEarly, long behindHello) {
            if (taken) {
                used.taken = true;
                told[5] = 1;
                read(derive(early, 'e', behindHello));
            } else {
                dropping |= hadEarly;
                read(c);
            }
            TreeMap<Integer, byte[]> fields = new TreeMap<>();
            if (taken) {
                fields.put(8, new byte[0]);
            }
            putMessage(8, fieldsOf(8, fields));
            boolean asks = used == null && end.settings[1] != 0;
            place = taken ? "earlys end" : asks ? "chain" : "end";
            if (asks) {
                TreeMap<Integer, byte[]> schemes = new TreeMap<>();
                schemes.put(5, end.offered(2));
                putMessage(13, fieldsOf(13, schemes));
            }
            if (used == null) {
                Paper leaf = end.identity.get(0);
                byte[] staple = {};
                for (Paper one : answers) {
                    staple = one.issuer.equals(leaf.issuer) && one.serial == leaf.serial ? one.bytes : staple;
                }
                putMessage(11, chainOf(end.identity.size(), staple));
                putMessage(15, proven('S', told[3]));
            }
            putMessage(20, endBy(s));
            makeMaster();
            write(sayS);
        }
    }

    int connection(int client, int server) {
        boolean good = (client == -1 || isClient(client)) && (server == -1 || isEnd(server) && ends.get(server).server);
        if (!good || client == -1 && server == -1) {
            return BAD;
        }
        if (lines.size() == 12) {
            return FULL;
        }
        Side[] both = {client == -1 ? null : new Side(ends.get(client)), server == -1 ? null : new Side(ends.get(server))};
        lines.add(both);
        if (both[0] != null) {
            both[0].greet();
        }
        return lines.size() - 1;
    }

    private boolean isSide(int c, int side) {
        return c >= 0 && c < lines.size() && (side == 0 || side == 1);
    }

    Side side(int c, int side) {
        return isSide(c, side) ? lines.get(c)[side] : null;
    }

    int give(int c, int side) {
        if (!isSide(c, side)) {
            return BAD;
        }
        Side to = side(c, side);
        if (to == null) {
            return NO;
        }
        if (to.line.length > 2000) {
            return FULL;
        }
        to.come(take());
        return to.line.length;
    }

    int bring(int c, int side, int n) {
        if (!isSide(c, side) || n < 1 || n > 8000) {
            return BAD;
        }
        Side from = side(c, side);
        Side to = side(c, 1 - side);
        if (to != null && to.line.length > 4000) {
            return FULL;
        }
        int count = Math.min(Math.min(n, to == null ? 800 : 8000), from == null ? 0 : from.line.length);
        byte[] bytes = from == null ? new byte[0] : Own.part(from.line, 0, count);
        if (from != null) {
            from.line = Own.part(from.line, count, from.line.length);
        }
        if (to == null) {
            out = bytes;
        } else {
            to.come(bytes);
        }
        return count;
    }

    int line(int c, int side, int i) {
        if (!isSide(c, side)) {
            return BAD;
        }
        byte[] waits = side(c, side) == null ? new byte[0] : side(c, side).line;
        return i == -1 ? waits.length : i < 0 || i >= waits.length ? BAD : waits[i] & 255;
    }

    int alter(int c, int side, int i, int mask) {
        if (i < 0 || line(c, side, i) < 0 || mask < 1 || mask > 255) {
            return BAD;
        }
        byte[] waits = side(c, side).line;
        waits[i] ^= (byte) mask;
        return waits[i] & 255;
    }

    int say(int c, int side) {
        if (!isSide(c, side)) {
            return BAD;
        }
        Side by = side(c, side);
        if (by == null || !by.maySay()) {
            return NO;
        }
        if (by.line.length > 2000) {
            return FULL;
        }
        byte[] bytes = take();
        by.putRecords(23, bytes);
        return bytes.length;
    }

    int hear(int c, int side) {
        Side by = side(c, side);
        if (by == null) {
            return BAD;
        }
        if (by.heard.length > 0) {
            int got = by.heard[0] & 255;
            by.heard = Own.part(by.heard, 1, by.heard.length);
            return got;
        }
        return by.told[9] == 1 ? -11 : by.told[0] == 2 ? -12 : -10;
    }

    int close(int c, int side) {
        if (!isSide(c, side)) {
            return BAD;
        }
        Side by = side(c, side);
        if (by == null || !by.maySay()) {
            return NO;
        }
        by.putAlert(0);
        by.told[8] = 1;
        return 1;
    }

    int renew(int c, int side, int ask) {
        if (!isSide(c, side) || ask != 0 && ask != 1) {
            return BAD;
        }
        Side by = side(c, side);
        if (by == null || !by.maySay()) {
            return NO;
        }
        if (by.line.length > 2000) {
            return FULL;
        }
        by.renew(ask);
        return 1;
    }

    int told(int c, int side, int what) {
        Side of = side(c, side);
        return of == null || what < 0 || what > 14 ? BAD : of.told[what];
    }

    long key(int c, int side, int which) {
        Side of = side(c, side);
        if (of == null || which < 0 || which > 7) {
            return BAD;
        }
        Long[] all = {of.writing, of.reading, of.early, of.hand, of.master, of.export, of.next,
            of.told[1] == 0 ? null : Long.valueOf(of.digest())};
        return all[which] == null ? 0 : all[which];
    }

    long export(int c, int side) {
        Side of = side(c, side);
        if (of == null) {
            return BAD;
        }
        byte[] t = take();
        return of.export == null ? 0 : of.derive(of.export, 'y', Own.digest(of.h(), t));
    }

    // ---- office

    static final class Order {
        int account;
        int state;
        int issued = NONE;
        final List<String> patterns = new ArrayList<>();
        final List<Integer> tokens = new ArrayList<>();
        final List<Integer> states = new ArrayList<>();
    }

    static final class Office {
        Paper paper;
        int key;
        int scheme;
        final List<Long> accounts = new ArrayList<>();
        final List<Order> orders = new ArrayList<>();
        int tokens;
        int serials;
        int lists;
        final java.util.TreeSet<Integer> revoked = new java.util.TreeSet<>();
    }

    int office(int c, int x, int s) {
        if (!isCertificate(c) || !key(x) || !scheme(s)) {
            return BAD;
        }
        if (!certificates.get(c).office || certificates.get(c).point != Own.keyPoint(x)) {
            return NO;
        }
        if (offices.size() == 4) {
            return FULL;
        }
        Office got = new Office();
        got.paper = certificates.get(c);
        got.key = x;
        got.scheme = s;
        offices.add(got);
        return offices.size() - 1;
    }

    private Office officeOf(int o) {
        return o >= 0 && o < offices.size() ? offices.get(o) : null;
    }

    private Order orderOf(int o, int order) {
        Office of = officeOf(o);
        return of != null && order >= 0 && order < of.orders.size() ? of.orders.get(order) : null;
    }

    int account(int o, long secret) {
        Office of = officeOf(o);
        if (of == null) {
            return BAD;
        }
        if (of.accounts.size() == 8) {
            return FULL;
        }
        of.accounts.add(secret);
        return of.accounts.size() - 1;
    }

    int order(int o, int account) {
        Office of = officeOf(o);
        if (of == null || account < 0 || account >= of.accounts.size()) {
            return BAD;
        }
        Order got = new Order();
        for (String pattern : signs(tape).split(",", -1)) {
            if (!isPattern(pattern) || got.patterns.contains(pattern) || got.patterns.size() == 3) {
                return NO;
            }
            got.patterns.add(pattern);
        }
        if (of.orders.size() == 12) {
            return FULL;
        }
        take();
        got.account = account;
        for (int i = 0; i < got.patterns.size(); i++) {
            of.tokens++;
            got.tokens.add(of.tokens);
            got.states.add(0);
        }
        of.orders.add(got);
        return of.orders.size() - 1;
    }

    int ordered(int o, int order, int what) {
        Order of = orderOf(o, order);
        if (of == null || what < 0) {
            return BAD;
        }
        if (what <= 3) {
            int[] all = {of.state, of.account, of.patterns.size(), of.issued};
            return all[what];
        }
        int k = what % 10;
        boolean good = what >= 10 && what < 30 && k < of.patterns.size();
        return !good ? BAD : what < 20 ? of.tokens.get(k) : of.states.get(k);
    }

    int zone(long secret) {
        String name = signs(tape);
        if (!isName(name)) {
            return NO;
        }
        if (zone.size() == 16 && !zone.containsKey(name)) {
            return FULL;
        }
        take();
        zone.put(name, secret);
        return zone.size();
    }

    int challenge(int o, int order, int k) {
        Order of = orderOf(o, order);
        if (of == null || k < 0 || k >= of.patterns.size()) {
            return BAD;
        }
        if (of.state != 0 || of.states.get(k) != 0) {
            return NO;
        }
        long due = Own.derived(0, offices.get(o).accounts.get(of.account), 'z', of.tokens.get(k));
        Long has = zone.get(base(of.patterns.get(k)));
        boolean met = has != null && has == due;
        of.states.set(k, met ? 1 : 2);
        if (!met) {
            of.state = 3;
        } else if (of.states.stream().allMatch(one -> one == 1)) {
            of.state = 1;
        }
        return of.states.get(k);
    }

    int issue(int o, int order, int y, int minutes) {
        Order of = orderOf(o, order);
        if (of == null || y < 2 || y > Own.P - 2 || minutes < 1 || minutes > 1000000) {
            return BAD;
        }
        if (of.state != 1) {
            return NO;
        }
        if (certificates.size() == 30) {
            return FULL;
        }
        Office by = offices.get(o);
        by.serials++;
        Cert cert = new Cert(base(of.patterns.get(0)), by.paper.subject, 1).serial(by.serials).times(time, time + minutes)
            .scheme(by.scheme).uses(3).names(of.patterns.toArray(new String[0]));
        cert.point = y;
        of.issued = holdOwn(0, cert.by(by.key), certificates);
        of.state = 2;
        return of.issued;
    }

    private int holdOwn(int kind, byte[] bytes, List<Paper> row) {
        try {
            Paper paper = Paper.of(kind, bytes);
            int at = kind == 0 ? held(paper) : -1;
            if (at < 0) {
                row.add(paper);
                at = row.size() - 1;
            }
            return at;
        } catch (Fault fault) {
            throw new IllegalStateException(fault);
        }
    }

    int revoke(int o, int serial) {
        Office of = officeOf(o);
        if (of == null || serial < 1 || serial > of.serials) {
            return BAD;
        }
        if (of.revoked.contains(serial)) {
            return NO;
        }
        of.revoked.add(serial);
        return of.revoked.size();
    }

    int publish(int o, int minutes) {
        Office of = officeOf(o);
        if (of == null || minutes < 1 || minutes > 1000000) {
            return BAD;
        }
        if (lists.size() == 12) {
            return FULL;
        }
        of.lists++;
        int[] serials = of.revoked.stream().mapToInt(i -> i).toArray();
        return holdOwn(1, Cert.list(of.paper.subject, of.lists, time, time + minutes, of.scheme, of.key, serials), lists);
    }

    int respond(int o, int serial, int minutes) {
        Office of = officeOf(o);
        if (of == null || serial < 1 || serial > of.serials || minutes < 1 || minutes > 1000000) {
            return BAD;
        }
        if (answers.size() == 12) {
            return FULL;
        }
        int state = of.revoked.contains(serial) ? 1 : 0;
        return holdOwn(2, Cert.answer(of.paper.subject, serial, state, time, time + minutes, of.scheme, of.key), answers);
    }

    // ---- logs

    int log() {
        if (logs.size() == 4) {
            return FULL;
        }
        logs.add(new ArrayList<>());
        return logs.size() - 1;
    }

    private List<Long> logOf(int l) {
        return l >= 0 && l < logs.size() ? logs.get(l) : null;
    }

    int add(int l, long entry) {
        List<Long> log = logOf(l);
        if (log == null) {
            return BAD;
        }
        if (log.size() == 64) {
            return FULL;
        }
        log.add(entry);
        return log.size();
    }

    private static int half(int n) {
        return Integer.highestOneBit(n - 1);
    }

    private static long knot(long left, long right) {
        return Own.digest(0, Own.bytes(1), Own.secret(left), Own.secret(right));
    }

    private static long headOf(List<Long> log) {
        int n = log.size();
        if (n == 0) {
            return Own.digest(0);
        }
        if (n == 1) {
            return Own.digest(0, Own.bytes(0), Own.secret(log.get(0)));
        }
        return knot(headOf(log.subList(0, half(n))), headOf(log.subList(half(n), n)));
    }

    long head(int l, int n) {
        List<Long> log = logOf(l);
        return log == null || n < 0 || n > log.size() ? BAD : headOf(log.subList(0, n));
    }

    private static byte[] inclusionOf(List<Long> log, int i) {
        int n = log.size();
        if (n == 1) {
            return new byte[0];
        }
        int k = half(n);
        List<Long> left = log.subList(0, k);
        List<Long> right = log.subList(k, n);
        return i < k ? Own.cat(inclusionOf(left, i), Own.secret(headOf(right)))
            : Own.cat(inclusionOf(right, i - k), Own.secret(headOf(left)));
    }

    int inclusion(int l, int i, int n) {
        List<Long> log = logOf(l);
        return log == null || n > log.size() || i < 0 || i >= n ? BAD : leave(inclusionOf(log.subList(0, n), i));
    }

    private static byte[] sub(List<Long> log, int m, boolean whole) {
        int n = log.size();
        if (n == m) {
            return whole ? new byte[0] : Own.secret(headOf(log));
        }
        int k = half(n);
        List<Long> left = log.subList(0, k);
        List<Long> right = log.subList(k, n);
        return m <= k ? Own.cat(sub(left, m, whole), Own.secret(headOf(right)))
            : Own.cat(sub(right, m - k, false), Own.secret(headOf(left)));
    }

    int consistency(int l, int m, int n) {
        List<Long> log = logOf(l);
        return log == null || n > log.size() || m < 1 || m > n ? BAD : leave(sub(log.subList(0, n), m, true));
    }

    /** The HEAD that comes of a LEAF at a place among n, and of what is told in order. */
    private static long climb(long leaf, int i, int n, Iterator<Long> told) {
        if (n == 1) {
            return leaf;
        }
        int k = half(n);
        long inner = i < k ? climb(leaf, i, k, told) : climb(leaf, i - k, n - k, told);
        long other = told.hasNext() ? told.next() : 0;
        return i < k ? knot(inner, other) : knot(other, inner);
    }

    /** Both HEADS that come of what is told, for SUB (m, ..) of n. */
    private static long[] grow(int m, int n, Long whole, Iterator<Long> told) {
        if (m == n) {
            long one = whole != null ? whole : told.hasNext() ? told.next() : 0;
            return new long[] {one, one};
        }
        int k = half(n);
        long[] got = m <= k ? grow(m, k, whole, told) : grow(m - k, n - k, null, told);
        long other = told.hasNext() ? told.next() : 0;
        return m <= k ? new long[] {got[0], knot(got[1], other)} : new long[] {knot(other, got[0]), knot(other, got[1])};
    }

    private static List<Long> secrets(byte[] bytes) {
        List<Long> got = new ArrayList<>();
        for (int at = 0; at + 8 <= bytes.length; at += 8) {
            got.add(Own.secretOf(bytes, at));
        }
        return got;
    }

    /** How many bytes a proof has is told by one of a LOG of as many entries. */
    private static List<Long> anyLog(int n) {
        List<Long> got = new ArrayList<>();
        for (int i = 0; i < n; i++) {
            got.add(0L);
        }
        return got;
    }

    int included(long entry, int i, int n, long head) {
        if (n < 1 || n > 64 || i < 0 || i >= n) {
            return BAD;
        }
        byte[] t = take();
        long leaf = Own.digest(0, Own.bytes(0), Own.secret(entry));
        boolean size = t.length == inclusionOf(anyLog(n), i).length;
        return size && climb(leaf, i, n, secrets(t).iterator()) == head ? 1 : 0;
    }

    int consistent(int m, int n, long first, long second) {
        if (n < 1 || n > 64 || m < 1 || m > n) {
            return BAD;
        }
        byte[] t = take();
        boolean size = t.length == sub(anyLog(n), m, true).length;
        long[] got = grow(m, n, first, secrets(t).iterator());
        return size && got[0] == first && got[1] == second ? 1 : 0;
    }
}
