import java.util.Random;

/** Promises 17 to 23: NODES and their FAULTS, wrap, the three forms, field and text. */
public final class FormsTest {
    private static int place;

    public static void main(String[] args) {
        places();
        deep();
        againstAnother();
        wraps();
        certificates();
        wrongCertificates();
        rooms();
        lists();
        answers();
        Check.end("FormsTest");
    }

    private static int node(byte[] row) {
        SecureLines x = new SecureLines();
        Own.feed(x, row);
        int got = x.node();
        Check.due("node took", x.cut(0), 0);
        return got;
    }

    private static void fault(String what, int due, int... row) {
        Check.due(what, node(Own.bytes(row)), due < 0 ? 0 : -10 - due);
    }

    private static void places() {
        fault("nothing", 0);
        fault("a tag that is none", 0, 5, 0);
        fault("tag 160", 0, 160, 0);
        fault("tag 167", 0, 167, 0);
        fault("no length", 1, 4);
        fault("length 128", 1, 4, 128, 0);
        fault("length 131", 1, 4, 131, 0, 0, 0);
        fault("length 131 alone", 1, 4, 131);
        fault("129 alone", 2, 4, 129);
        fault("129 not shortest", 1, 4, 129, 127);
        fault("130 and one byte", 3, 4, 130, 1);
        fault("130 not shortest", 1, 4, 130, 0, 255);
        fault("beyond", 1, 4, 3, 1, 2);
        fault("129 beyond", 1, 4, 129, 200, 1);
        fault("130 beyond", 1, 4, 130, 1, 0, 1);
        fault("bytes", -1, 4, 2, 255, 0);
        fault("no bytes", -1, 4, 0);
        fault("bytes behind", 4, 4, 2, 1, 2, 0);
        fault("bytes behind", 2, 48, 0, 48);
        fault("NUMBER without bytes", 2, 2, 0);
        fault("NUMBER 0", -1, 2, 1, 0);
        fault("NUMBER 127", -1, 2, 1, 127);
        fault("NUMBER 128 in one byte", 2, 2, 1, 128);
        fault("NUMBER 128", -1, 2, 2, 0, 128);
        fault("NUMBER not fewest", 2, 2, 2, 0, 127);
        fault("NUMBER greatest", -1, 2, 4, 127, 255, 255, 255);
        fault("NUMBER above", 2, 2, 5, 0, 128, 0, 0, 0);
        fault("NUMBER below 0", 2, 2, 4, 128, 0, 0, 0);
        fault("NAME", -1, 12, 3, 'a', '.', 'b');
        fault("NAME of none", 2, 12, 0);
        fault("NAME .", 2, 12, 1, '.');
        fault("NAME a.", 4, 12, 2, 'a', '.');
        fault("NAME a..b", 4, 12, 4, 'a', '.', '.', 'b');
        fault("NAME A", 3, 12, 2, 'a', 'A');
        fault("NAME -9", -1, 12, 2, '-', '9');
        fault("NAME with *", 2, 12, 5, '*', '.', 'a', '.', 'b');
        fault("an empty 48", -1, 48, 0);
        fault("a tag that is none inside", 4, 48, 4, 4, 0, 5, 0);
        fault("no length inside", 5, 48, 3, 4, 0, 4);
        fault("no length inside, bytes behind it", 3, 48, 1, 4, 0);
        fault("129 alone inside, bytes behind it", 4, 48, 2, 4, 129, 200);
        fault("length beyond the 48", 3, 48, 3, 4, 2, 0, 0);
        fault("of 161 only the length", -1, 161, 2, 5, 5);
        fault("166", -1, 166, 0);
        fault("166 beyond", 1, 166, 1);
        byte[] forty = new byte[40];
        java.util.Arrays.fill(forty, (byte) 'a');
        Check.due("NAME of 40", node(Own.node(12, forty)), 0);
        Check.due("NAME of 41", node(Own.node(12, forty, Own.text("a"))), -10 - 42);
        Check.due("NAME of 41, the last a .", node(Own.node(12, forty, Own.text("."))), -10 - 42);
        forty[39] = '.';
        Check.due("NAME of 40, the last a .", node(Own.node(12, forty)), -10 - 42);
        Check.due("129 and 128", node(Own.node(4, new byte[128])), 0);
        Check.due("130 and 256", node(Own.node(4, new byte[256])), 0);
        Check.due("130 and 700", node(Own.node(48, Own.node(4, new byte[700]))), 0);
    }

    private static void deep() {
        byte[] row = Own.node(4);
        for (int i = 0; i < 9; i++) {
            row = Own.node(48, row);
        }
        Check.due("in 9 others", node(row), 0);
        row = Own.node(48, row);
        Check.due("in 10 others", node(row), -10 - 20);
        Check.due("an empty 48 in 9 others", node(Own.bytes(48, 18, 48, 16, 48, 14, 48, 12, 48, 10, 48, 8, 48, 6, 48, 4,
            48, 2, 48, 0)), 0);
        row = Own.node(48, row, Own.node(2, Own.bytes(200)));
        Check.due("the first of two faults", node(row), -10 - 20);
    }

    /** THE FAULT by descent: -1, or its place. */
    private static int descend(int[] row, int at, int end, int depth) {
        if (at >= end) {
            return end;
        }
        int tag = row[at];
        if (!(tag == 48 || tag == 2 || tag == 4 || tag == 12 || tag > 160 && tag < 167) || depth > 9) {
            return at;
        }
        if (at + 1 >= end) {
            return end;
        }
        int first = row[at + 1];
        int more = first < 128 ? 0 : first - 128;
        if (first == 128 || more > 2) {
            return at + 1;
        }
        if (at + 2 + more > end) {
            return end;
        }
        int n = more == 0 ? first : more == 1 ? row[at + 2] : row[at + 2] * 256 + row[at + 3];
        int from = at + 2 + more;
        if (more > 0 && n < 128 || more > 1 && n < 256 || n > end - from) {
            return at + 1;
        }
        place = from + n;
        if (tag == 2) {
            long v = n > 4 || n == 0 ? -1 : 0;
            for (int i = from; i < from + n && v >= 0; i++) {
                v = v * 256 + row[i];
            }
            boolean good = v >= 0 && v < 1L << 31 && Own.number((int) v).length == n + 2;
            return good ? -1 : from;
        }
        if (tag == 12) {
            String signs = "";
            for (int i = from; i < from + n; i++) {
                signs += (char) row[i];
                if (!signs.matches("([a-z0-9-]+\\.)*[a-z0-9-]*") || signs.length() > 40) {
                    return i;
                }
            }
            return signs.isEmpty() || signs.endsWith(".") ? from + n : -1;
        }
        for (int inside = from; tag == 48 && inside < from + n; inside = place) {
            int got = descend(row, inside, from + n, depth + 1);
            if (got >= 0) {
                return got;
            }
        }
        place = from + n;
        return -1;
    }

    private static int due(byte[] row) {
        int[] values = new int[row.length];
        for (int i = 0; i < row.length; i++) {
            values[i] = row[i] & 255;
        }
        int got = descend(values, 0, row.length, 0);
        return got >= 0 ? -10 - got : place < row.length ? -10 - place : 0;
    }

    private static byte[] anyNode(Random random, int depth) {
        int which = random.nextInt(depth > 11 ? 4 : 8);
        if (which == 0) {
            return Own.number(random.nextInt() >>> 1 + random.nextInt(31));
        }
        if (which == 1) {
            return Own.name("ab.c-9".substring(0, 1 + random.nextInt(6)));
        }
        if (which == 2) {
            return Own.node(4, new byte[random.nextInt(20) == 0 ? 120 + random.nextInt(150) : random.nextInt(4)]);
        }
        if (which == 3) {
            return Own.node(161 + random.nextInt(6), new byte[random.nextInt(4)]);
        }
        byte[] inside = {};
        int count = random.nextInt(4);
        for (int i = 0; i < count && inside.length < 200; i++) {
            inside = Own.cat(inside, anyNode(random, depth + 1));
        }
        return Own.node(48, inside);
    }

    private static void againstAnother() {
        Random random = new Random(5);
        int good = 0;
        for (int i = 0; i < 6000; i++) {
            byte[] row = anyNode(random, 0);
            for (int j = random.nextInt(4); j > 0 && row.length > 0; j--) {
                int at = random.nextInt(row.length);
                int way = random.nextInt(4);
                if (way == 0) {
                    row[at] ^= 1 << random.nextInt(8);
                } else if (way == 1) {
                    row[at] = Own.bytes(48, 2, 4, 12, 128, 129, 130, 0, 1, '.')[random.nextInt(10)];
                } else if (way == 2) {
                    row = Own.cat(Own.part(row, 0, at), Own.part(row, at + 1, row.length));
                } else {
                    row = Own.cat(Own.part(row, 0, at), Own.bytes(random.nextInt(200)), Own.part(row, at, row.length));
                }
            }
            if (row.length <= 800) {
                int want = due(row);
                good += want == 0 ? 1 : 0;
                Check.due("node " + java.util.Arrays.toString(row), node(row), want);
            }
        }
        Check.that("some are right and some are not", good > 500 && good < 5500);
    }

    private static void wraps() {
        SecureLines x = new SecureLines();
        byte[] inner = Own.node(48, Own.number(5));
        Own.feed(x, inner);
        byte[] due = Own.signed(inner, 2, 77);
        Check.due("wrap", x.wrap(2, 77), due.length);
        Check.due("it is there", x.digest(0), Own.digest(0, due));
        Check.due("wrap of nothing", x.wrap(1, 1), 12);
        Check.due("it is there", x.digest(0), Own.digest(0, Own.signed(new byte[0], 1, 1)));
        for (int n : new int[] {117, 118, 245, 246, 785, 786}) {
            x.cut(0);
            Own.feed(x, new byte[n]);
            byte[] whole = Own.signed(new byte[n], 1, 9);
            Check.due("wrap of " + n, x.wrap(1, 9), whole.length);
            Check.due("it is there", x.digest(0), Own.digest(0, whole));
        }
        Own.feed(x, new byte[787]);
        Check.due("wrap beyond", x.wrap(1, 9), -3);
        Check.due("scheme 0", x.wrap(0, 9), -1);
        Check.due("scheme 3", x.wrap(3, 9), -1);
        Check.due("key 0", x.wrap(1, 0), -1);
        Check.due("key q", x.wrap(1, Own.Q), -1);
        Check.due("not taken", x.cut(0), 787);
    }

    private static Cert full() {
        return new Cert("b.c", "a", 7).serial(300).times(5, 70000).scheme(2).office().depth(3).uses(13)
            .names("x", "*.y.z", "x").permitted("p", "q.r").excluded("e1", "e2", "e3", "e4");
    }

    private static void certificates() {
        SecureLines x = new SecureLines();
        byte[] plain = new Cert("s", "i", 9).by(8);
        byte[] rich = full().by(8);
        Check.due("the first", Own.hold(x, plain), 0);
        Check.due("taken", x.cut(0), 0);
        Check.due("the second", Own.hold(x, rich), 1);
        Check.due("equal bytes are one", Own.hold(x, plain), 0);
        Check.due("another signature is another one", Own.hold(x, new Cert("s", "i", 9).by(10)), 2);
        int[] first = {1, 0, 1000, 1, Own.keyPoint(9), 0, -4, 15, 0, 0, 0, plain.length};
        int[] second = {300, 5, 70000, 2, Own.keyPoint(7), 1, 3, 13, 3, 2, 4, rich.length};
        for (int what = 0; what < 12; what++) {
            Check.due("field(0, " + what + ")", x.field(0, what), first[what]);
            Check.due("field(1, " + what + ")", x.field(1, what), second[what]);
        }
        Check.due("field(3, 0)", x.field(3, 0), -1);
        Check.due("field(-1, 0)", x.field(-1, 0), -1);
        Check.due("field(0, 12)", x.field(0, 12), -1);
        Check.due("field(0, -1)", x.field(0, -1), -1);
        text(x, 1, 0, 99, Own.text("a"));
        text(x, 1, 1, -1, Own.text("b.c"));
        text(x, 1, 8, 0, Own.text("x"));
        text(x, 1, 8, 1, Own.text("*.y.z"));
        text(x, 1, 8, 2, Own.text("x"));
        text(x, 1, 9, 1, Own.text("q.r"));
        text(x, 1, 10, 3, Own.text("e4"));
        text(x, 1, 11, 5, rich);
        text(x, 0, 11, 0, plain);
        int[][] none = {{1, 8, 3}, {1, 8, -1}, {1, 9, 2}, {1, 10, 4}, {0, 8, 0}, {1, 2, 0}, {1, 7, 0}, {1, 12, 0},
            {1, -1, 0}, {3, 0, 0}, {-1, 0, 0}};
        for (int[] call : none) {
            Check.due("text of none such", x.text(call[0], call[1], call[2]), -1);
        }
        Check.due("OUT stays", x.out(-1), plain.length);
        SecureLines y = new SecureLines();
        Check.due("SERIAL greatest", Own.hold(y, new Cert("s", "i", 9).serial(Integer.MAX_VALUE).times(7, 7).by(1)), 0);
        Check.due("POINT is any", Own.hold(y, pointed(-1)), 1);
        Check.due("it is told with its sign", y.field(1, 4), -1);
        String forty = "a123456789b123456789c123456789d123456789".substring(0, 37) + ".de";
        Check.due("a PATTERN of 42", Own.hold(y, pattern("*." + forty)), 2);
        Check.due("a PATTERN of 43", Own.hold(y, pattern("*." + forty + "f")), -9);
        Check.due("a PATTERN *.a", Own.hold(y, pattern("*.a")), -9);
        Check.due("a PATTERN *", Own.hold(y, pattern("*")), -9);
        Check.due("a PATTERN *.", Own.hold(y, pattern("*.")), -9);
        Check.due("a PATTERN a.*", Own.hold(y, pattern("a.*")), -9);
        Check.due("a PATTERN *.a.", Own.hold(y, pattern("*.a.")), -9);
        Check.due("a PATTERN *.*.a", Own.hold(y, pattern("*.*.a")), -9);
        Check.due("PERMITTED is no PATTERN", Own.hold(y, new Cert("s", "i", 9).permitted("*.a.b").by(1)), -9);
        Check.due("EXCLUDED is no PATTERN", Own.hold(y, new Cert("s", "i", 9).excluded("*.a.b").by(1)), -9);
        Check.due("SUBJECT is no PATTERN", Own.hold(y, new Cert("*.a.b", "i", 9).by(1)), -10 - 12);
    }

    private static byte[] pattern(String signs) {
        return new Cert("s", "i", 9).names(signs).by(1);
    }

    private static byte[] pointed(int point) {
        Cert cert = new Cert("s", "i", 9);
        cert.point = point;
        return cert.by(1);
    }

    private static void text(SecureLines x, int c, int what, int k, byte[] due) {
        Check.due("text(" + c + ", " + what + ", " + k + ")", x.text(c, what, k), due.length);
        Check.that("its bytes", java.util.Arrays.equals(Own.out(x), due));
    }

    /** A certificate of parts, the signature among them. */
    private static int of(byte[]... parts) {
        SecureLines x = new SecureLines();
        byte[] whole = Own.node(48, Own.node(48, parts), Own.node(4, new byte[8]));
        int got = Own.hold(x, whole);
        Check.due("taken", x.cut(0), 0);
        return got;
    }

    private static void wrongCertificates() {
        byte[] one = Own.number(1);
        byte[] zero = Own.number(0);
        byte[] name = Own.name("a");
        byte[] point = Own.node(4, new byte[4]);
        byte[] office = Own.node(161);
        byte[] names = Own.node(164, name);
        Check.due("right", of(one, name, name, zero, zero, one, point), 0);
        Check.due("SERIAL 0", of(zero, name, name, zero, zero, one, point), -9);
        Check.due("TO below FROM", of(one, name, name, one, zero, one, point), -9);
        Check.due("SCHEME 0", of(one, name, name, zero, zero, zero, point), -9);
        Check.due("SCHEME 3", of(one, name, name, zero, zero, Own.number(3), point), -9);
        Check.due("POINT of 3", of(one, name, name, zero, zero, one, Own.node(4, new byte[3])), -9);
        Check.due("POINT of 5", of(one, name, name, zero, zero, one, Own.node(4, new byte[5])), -9);
        Check.due("no POINT", of(one, name, name, zero, zero, one), -9);
        Check.due("no SUBJECT", of(one, name, zero, zero, one, point), -9);
        Check.due("a NODE more", of(one, name, name, zero, zero, one, point, one), -9);
        Check.due("OFFICE", of(one, name, name, zero, zero, one, point, office), 0);
        Check.due("OFFICE twice", of(one, name, name, zero, zero, one, point, office, office), -9);
        Check.due("OFFICE with bytes", of(one, name, name, zero, zero, one, point, Own.node(161, new byte[1])), -9);
        Check.due("DEPTH", of(one, name, name, zero, zero, one, point, office, Own.node(162, Own.bytes(6))), 0);
        SecureLines x = new SecureLines();
        Own.hold(x, new Cert("s", "i", 9).office().by(1));
        byte[] deep = Own.node(48, one, name, name, zero, zero, one, point, Own.node(162, Own.bytes(1)));
        Check.due("DEPTH without OFFICE, behind an OFFICE", Own.hold(x, Own.node(48, deep, Own.node(4, new byte[8]))), -9);
        Check.due("DEPTH 7", of(one, name, name, zero, zero, one, point, office, Own.node(162, Own.bytes(7))), -9);
        Check.due("DEPTH of two", of(one, name, name, zero, zero, one, point, office, Own.node(162, Own.bytes(0, 0))), -9);
        Check.due("DEPTH of none", of(one, name, name, zero, zero, one, point, office, Own.node(162)), -9);
        Check.due("DEPTH without OFFICE", of(one, name, name, zero, zero, one, point, Own.node(162, Own.bytes(1))), -9);
        Check.due("USES 15", of(one, name, name, zero, zero, one, point, Own.node(163, Own.bytes(15))), 0);
        Check.due("USES 0", of(one, name, name, zero, zero, one, point, Own.node(163, Own.bytes(0))), -9);
        Check.due("USES 16", of(one, name, name, zero, zero, one, point, Own.node(163, Own.bytes(16))), -9);
        Check.due("USES of none", of(one, name, name, zero, zero, one, point, Own.node(163)), -9);
        Check.due("falling", of(one, name, name, zero, zero, one, point, names, Own.node(163, Own.bytes(1))), -9);
        Check.due("NAMES of none", of(one, name, name, zero, zero, one, point, Own.node(164)), -9);
        Check.due("NAMES of 4", of(one, name, name, zero, zero, one, point, Own.node(164, name, name, name, name)), 0);
        Check.due("NAMES of 5", of(one, name, name, zero, zero, one, point, Own.node(164, name, name, name, name, name)), -9);
        Check.due("NAMES with a NUMBER", of(one, name, name, zero, zero, one, point, Own.node(164, name, one)), -9);
        Check.due("NAMES cut", of(one, name, name, zero, zero, one, point, Own.node(164, name, Own.bytes(12))), -9);
        Check.due("NAMES beyond", of(one, name, name, zero, zero, one, point, Own.node(164, Own.bytes(12, 2, 'a'))), -9);
        Check.due("NAMES long", of(one, name, name, zero, zero, one, point, Own.node(164, Own.bytes(12, 129, 1, 'a'))), -9);
        Check.due("PERMITTED of 5", of(one, name, name, zero, zero, one, point, Own.node(165, name, name, name, name, name)), -9);
        Check.due("EXCLUDED of none", of(one, name, name, zero, zero, one, point, Own.node(166)), -9);
        byte[] inner = new Cert("s", "i", 9).inner();
        x = new SecureLines();
        Check.due("a NUMBER", Own.hold(x, one), -9);
        Check.due("an empty 48", Own.hold(x, Own.node(48)), -9);
        Check.due("no SIGNATURE", Own.hold(x, Own.node(48, inner)), -9);
        Check.due("SIGNATURE of 7", Own.hold(x, Own.node(48, inner, Own.node(4, new byte[7]))), -9);
        Check.due("SIGNATURE of 9", Own.hold(x, Own.node(48, inner, Own.node(4, new byte[9]))), -9);
        Check.due("a NODE more", Own.hold(x, Own.node(48, inner, Own.node(4, new byte[8]), one)), -9);
        byte[] good = new Cert("s", "i", 9).by(1);
        Check.due("a FAULT", Own.hold(x, Own.cat(good, new byte[1])), -10 - good.length);
        Check.due("nothing", x.certificate(), -10);
        Check.due("none is held", x.field(0, 0), -1);
    }

    private static void rooms() {
        SecureLines x = new SecureLines();
        for (int i = 0; i < 30; i++) {
            Check.due("held", Own.hold(x, new Cert("s", "i", 9).serial(i + 1).by(8)), i);
        }
        Check.due("equal bytes without room", Own.hold(x, new Cert("s", "i", 9).serial(30).by(8)), 29);
        Check.due("no certificate without room", Own.hold(x, Own.number(1)), -9);
        byte[] more = new Cert("s", "i", 9).serial(31).by(8);
        Check.due("one more", Own.hold(x, more), -3);
        Check.due("not taken", x.cut(0), more.length);
        // 400 bytes are held, 401 are none
        String wide = "abcdefghijklmnopqrstuvwxyz0123456789abcd";
        Cert cert = new Cert(wide, wide, 9).names(wide, wide, wide, wide).permitted(wide, wide);
        int rest = 400 - cert.by(1).length;
        Cert at400 = new Cert(wide, wide, 9).names(wide, wide, wide, wide).permitted(wide, wide, wide.substring(0, rest - 2));
        SecureLines y = new SecureLines();
        Check.due("of 400 bytes", at400.by(1).length, 400);
        Check.due("it is held", Own.hold(y, at400.by(1)), 0);
        Cert at401 = new Cert(wide, wide, 9).names(wide, wide, wide, wide).permitted(wide, wide, wide.substring(0, rest - 1));
        Check.due("of 401 bytes", Own.hold(y, at401.by(1)), -9);
    }

    private static int list(SecureLines x, byte[] row) {
        Own.feed(x, row);
        return x.list();
    }

    private static void lists() {
        SecureLines x = new SecureLines();
        byte[] empty = Cert.list("i", 0, 5, 5, 1, 9);
        Check.due("without SERIALS", list(x, empty), 0);
        Check.due("taken", x.cut(0), 0);
        Check.due("equal ones are held twice", list(x, empty), 1);
        int[] forty = new int[41];
        for (int i = 0; i < 41; i++) {
            forty[i] = 3 * i + 1;
        }
        Check.due("of 40", list(x, Cert.list("i", 1, 5, 9, 2, 9, java.util.Arrays.copyOf(forty, 40))), 2);
        Check.due("of 41", list(x, Cert.list("i", 1, 5, 9, 2, 9, forty)), -9);
        Check.due("not rising", list(x, Cert.list("i", 1, 5, 9, 2, 9, 2, 2)), -9);
        Check.due("SERIAL 0", list(x, Cert.list("i", 1, 5, 9, 2, 9, 0, 2)), -9);
        Check.due("SERIAL below 0", list(x, Cert.list("i", 1, 5, 9, 2, 9, -7)), -9);
        Check.due("TO below FROM", list(x, Cert.list("i", 1, 5, 4, 2, 9, 1)), -9);
        Check.due("SCHEME 3", list(x, Cert.list("i", 1, 5, 5, 3, 9, 1)), -9);
        Check.due("of 5 bytes", list(x, Own.signed(Own.node(48, Own.name("i"), Own.number(1), Own.number(1), Own.number(1),
            Own.number(1), Own.node(4, new byte[5])), 1, 9)), -9);
        Check.due("a certificate", list(x, new Cert("s", "i", 9).by(8)), -9);
        Check.due("a FAULT", list(x, Own.bytes(48, 2, 2, 0)), -10 - 4);
        for (int i = 3; i < 12; i++) {
            Check.due("held", list(x, empty), i);
        }
        Check.due("FULL", list(x, empty), -3);
        Check.due("not taken", x.cut(0), empty.length);
        Check.due("-9 ahead of FULL", list(x, Own.number(1)), -9);
    }

    private static int answer(SecureLines x, byte[] row) {
        Own.feed(x, row);
        return x.answer();
    }

    private static void answers() {
        SecureLines x = new SecureLines();
        byte[] good = Cert.answer("i", 7, 0, 5, 5, 1, 9);
        Check.due("an ANSWER", answer(x, good), 0);
        Check.due("taken", x.cut(0), 0);
        Check.due("equal ones are held twice", answer(x, good), 1);
        Check.due("REVOKED, SERIAL 0", answer(x, Cert.answer("i", 0, 1, 5, 6, 2, 9)), 2);
        Check.due("state 2", answer(x, Cert.answer("i", 7, 2, 5, 6, 2, 9)), -9);
        Check.due("TO below FROM", answer(x, Cert.answer("i", 7, 1, 5, 4, 2, 9)), -9);
        Check.due("SCHEME 0", answer(x, Cert.answer("i", 7, 1, 5, 5, 0, 9)), -9);
        Check.due("a NODE more", answer(x, Own.signed(Own.node(48, Own.name("i"), Own.number(1), Own.number(1), Own.number(1),
            Own.number(1), Own.number(1), Own.number(1)), 1, 9)), -9);
        Check.due("a LIST", answer(x, Cert.list("i", 0, 5, 5, 1, 9)), -9);
        Check.due("a FAULT", answer(x, new byte[0]), -10);
        for (int i = 3; i < 12; i++) {
            Check.due("held", answer(x, good), i);
        }
        Check.due("FULL", answer(x, good), -3);
        Check.due("not taken", x.cut(0), good.length);
    }
}
