import java.util.Arrays;

/** Promises 17 to 23 at their bounds: NODES, CERTIFICATES, LISTS, ANSWERS. */
public final class BoundsFormsTest {
    private static final String FORTY = "abcdefghijklmnopqrstuvwxyz0123456789-a.c";
    private static final byte[] ONE = Own.number(1);
    private static final byte[] ZERO = Own.number(0);
    private static final byte[] NAME = Own.name("a");
    private static final byte[] POINT = Own.node(4, new byte[4]);
    private static final byte[] OFFICE = Own.node(161);

    public static void main(String[] args) throws ReflectiveOperationException {
        Bounds.run(BoundsFormsTest.class);
    }

    // ---- 17 node

    /** The place of the FAULT of a row; -1 is none. */
    private static void fault(String what, int due, byte[]... rows) {
        SecureLines x = new SecureLines();
        Own.feed(x, rows);
        Check.due(what, x.node(), due < 0 ? 0 : -10 - due);
        Check.due(what + ": it took THE TAPE", x.cut(0), 0);
    }

    private static void fault(String what, int due, int... row) {
        fault(what, due, Own.bytes(row));
    }

    /** "THE TAPE .. is one NODE": nothing is none; a byte lacks at the end. */
    static void promise17_nothing() {
        fault("no bytes", 0, new byte[0]);
    }

    /** "Tags: 48 ..; 2 ..; 4 ..; 12 ..; 161 to 166 ..; other tags are none." */
    static void promise17_tags() {
        for (int tag = 0; tag < 256; tag++) {
            boolean one = tag == 48 || tag == 2 || tag == 4 || tag == 12 || tag >= 161 && tag <= 166;
            fault("tag " + tag, one ? -1 : 0, tag == 2 ? Own.bytes(2, 1, 0) : tag == 12 ? Own.bytes(12, 1, 'a') : Own.bytes(tag, 0));
            fault("tag " + tag + " inside", one ? -1 : 2, Own.node(48, tag == 2 ? Own.bytes(2, 1, 0)
                : tag == 12 ? Own.bytes(12, 1, 'a') : Own.bytes(tag, 0)));
            fault("tag " + tag + " alone", one ? 1 : 0, tag);
        }
    }

    /** "below 128 one byte; else 129 and a byte, if it is below 256; else 130 and TWO". */
    static void promise17_lengths() {
        int[] lengths = {0, 1, 126, 127, 128, 129, 254, 255, 256, 257, 511, 512, 796};
        for (int n : lengths) {
            fault("of " + n, -1, Own.node(4, new byte[n]));
            fault("of " + n + ", a byte lacks", 1, Own.part(Own.node(4, new byte[n + 1]), 0, Own.node(4, new byte[n + 1]).length - 1));
        }
    }

    /** "always the shortest". */
    static void promise17_notTheShortest() {
        fault("127 by 129", 1, Own.bytes(4, 129, 127), new byte[127]);
        fault("128 by 129", -1, Own.bytes(4, 129, 128), new byte[128]);
        fault("0 by 129", 1, 4, 129, 0);
        fault("255 by 130", 1, Own.bytes(4, 130, 0, 255), new byte[255]);
        fault("256 by 130", -1, Own.bytes(4, 130, 1, 0), new byte[256]);
        fault("0 by 130", 1, 4, 130, 0, 0);
    }

    /** "a length that is none": 128, 131 and above. */
    static void promise17_lengthsThatAreNone() {
        fault("128", 1, 4, 128);
        fault("128 and bytes", 1, 4, 128, 1, 1);
        fault("128 and 128 bytes", 1, Own.bytes(4, 128), new byte[128]);
        fault("131 and 131 bytes", 1, Own.bytes(4, 131), new byte[131]);
        fault("255 and 255 bytes", 1, Own.bytes(4, 255), new byte[255]);
        fault("131 and a length of three bytes", 1, Own.bytes(4, 131, 0, 1, 0), new byte[256]);
        for (int first = 131; first < 256; first++) {
            fault("length " + first, 1, 4, first, 0, 0, 0, 0);
        }
    }

    /** "goes beyond what it lies in: its first byte": by one byte, of the row and of a NODE. */
    static void promise17_beyond() {
        fault("the row by one", 1, 4, 3, 0, 0);
        fault("the row not", -1, 4, 2, 0, 0);
        fault("the NODE by one", 3, 48, 4, 4, 3, 0, 0, 0);
        fault("the NODE not", -1, 48, 4, 4, 2, 0, 0);
        fault("a 48 in a 48", 3, 48, 2, 48, 1, 0);
        fault("65535", 1, 4, 130, 255, 255);
        fault("NUMBER beyond", 1, 2, 5, 255, 0);
        fault("NAME beyond", 1, 12, 3, '*', 'a');
    }

    /** "where a byte lacks: the end of what it lies in (a length whose bytes are not all there is not looked at yet)". */
    static void promise17_aByteLacks() {
        fault("a length", 1, 4);
        fault("129 alone", 2, 4, 129);
        fault("130 alone", 2, 4, 130);
        fault("130 and one", 3, 4, 130, 0);
        fault("a length in a 48", 3, 48, 1, 4);
        fault("129 in a 48", 4, 48, 2, 4, 129);
        fault("130 and one in a 48", 5, 48, 3, 4, 130, 0);
        fault("130 and one in a 48, bytes behind", 5, 48, 3, 4, 130, 0, 4, 0);
        fault("128 is looked at at once", 1, 4, 128);
    }

    /** "a NUMBER 0 .. 2147483647 in the fewest bytes, of which the first is below 128": "the place behind its length". */
    static void promise17_numbers() {
        int[] good = {0, 1, 127, 128, 255, 256, 32767, 32768, 65535, 65536, 8388607, 8388608, 16777216, Integer.MAX_VALUE};
        for (int v : good) {
            fault("NUMBER " + v, -1, Own.number(v));
        }
        fault("no bytes", 2, 2, 0);
        fault("128 in one byte", 2, 2, 1, 128);
        fault("255 in one byte", 2, 2, 1, 255);
        fault("127 in two", 2, 2, 2, 0, 127);
        fault("128 in two", -1, 2, 2, 0, 128);
        fault("0 in two", 2, 2, 2, 0, 0);
        fault("32767 in three", 2, 2, 3, 0, 127, 255);
        fault("32768 in three", -1, 2, 3, 0, 128, 0);
        fault("32768 in two", 2, 2, 2, 128, 0);
        fault("8388607 in four", 2, 2, 4, 0, 127, 255, 255);
        fault("8388608 in four", -1, 2, 4, 0, 128, 0, 0);
        fault("2147483647", -1, 2, 4, 127, 255, 255, 255);
        fault("2147483648 in four", 2, 2, 4, 128, 0, 0, 0);
        fault("2147483648 in five", 2, 2, 5, 0, 128, 0, 0, 0);
        fault("of five bytes", 2, 2, 5, 1, 0, 0, 0, 0);
        fault("behind a longer length", 3, Own.bytes(2, 129, 128), new byte[128]);
        fault("of 256 bytes", 4, Own.bytes(2, 130, 1, 0), new byte[256]);
    }

    /** "NAMES are 1 to 40 bytes": "the 41st"; "an empty NAME has its end behind its length". */
    static void promise17_namesOf1To40() {
        fault("an empty NAME", 2, 12, 0);
        fault("an empty NAME in a 48", 4, 48, 2, 12, 0);
        fault("of 1", -1, Own.name("a"));
        fault("of 39", -1, Own.name(FORTY.substring(1)));
        fault("of 40", -1, Own.name(FORTY));
        fault("of 41", 42, Own.name("a" + FORTY));
        fault("of 41, the last is no sign", 42, Own.name(FORTY + "!"));
        fault("of 41, the 40th is no sign", 41, Own.name(FORTY.substring(1) + "!a"));
        fault("of 41, the last is a point", 42, Own.name(FORTY + "."));
        fault("of 40, the last is a point", 42, Own.name(FORTY.substring(1) + "."));
        fault("of 200", 43, Own.name("a".repeat(200)));
    }

    /** "LABELS (a .. z, 0 .. 9, -; 1 byte at least) with . between". */
    static void promise17_signsOfNames() {
        for (int sign = 0; sign < 256; sign++) {
            boolean label = sign >= 'a' && sign <= 'z' || sign >= '0' && sign <= '9' || sign == '-';
            fault("sign " + sign, label ? -1 : 2, 12, 1, sign);
            fault("sign " + sign + " behind a", label ? -1 : sign == '.' ? 4 : 3, 12, 2, 'a', sign);
            fault("sign " + sign + " between", label || sign == '.' ? -1 : 3, 12, 3, 'a', sign, 'b');
        }
        fault("a point first", 2, Own.name(".a"));
        fault("two points", 4, Own.name("a..b"));
        fault("its end, a LABEL lacks", 4, Own.name("a."));
        fault("a point alone", 2, Own.name("."));
        fault("-", -1, Own.name("-"));
        fault("-.-", -1, Own.name("-.-"));
        fault("a PATTERN is no NAME", 2, Own.name("*.a.b"));
    }

    /** "the tag of a NODE that would lie in 10 others". */
    static void promise17_inTenOthers() {
        for (int depth = 8; depth <= 12; depth++) {
            byte[] row = {};
            for (int i = 0; i <= depth; i++) {
                row = Own.node(48, row);
            }
            fault("in " + depth + " others", depth < 10 ? -1 : 20, row);
            byte[] leaf = Own.node(4);
            for (int i = 0; i < depth; i++) {
                leaf = Own.node(48, leaf);
            }
            fault("a leaf in " + depth + " others", depth < 10 ? -1 : 20, leaf);
        }
        byte[] two = Own.node(4);
        for (int i = 0; i < 9; i++) {
            two = Own.node(48, Own.cat(two, Own.node(4)));
        }
        fault("many in 9 others", -1, two);
    }

    /** "bytes behind it: the first". */
    static void promise17_bytesBehind() {
        fault("behind 4", 2, 4, 0, 4, 0);
        fault("behind 48", 4, 48, 2, 4, 0, 0);
        fault("a fault ahead of that", 2, 2, 1, 200, 0);
        fault("inside what it lies in they are a NODE", 4, 48, 3, 4, 0, 5);
    }

    /** "Of 161 to 166 only lengths are looked at here, what is in them are bytes." */
    static void promise17_whatIsIn161To166() {
        for (int tag = 161; tag <= 166; tag++) {
            fault("any bytes", -1, tag, 3, 255, 0, 12);
            fault("beyond", 1, tag, 4, 255, 0, 12);
            fault("as a NODE in 9 others", -1, deep(Own.bytes(tag, 1, 99), 9));
        }
        fault("4 too", -1, 4, 2, 12, 0);
    }

    private static byte[] deep(byte[] inside, int depth) {
        byte[] got = inside;
        for (int i = 0; i < depth; i++) {
            got = Own.node(48, got);
        }
        return got;
    }

    // ---- 18 wrap

    /** "BAD: scheme, KEY; FULL: above 800": THE TAPE stays. */
    static void promise18_refusals() {
        SecureLines x = new SecureLines();
        Own.feed(x, Own.rowOf(787, 5));
        int[] schemes = {0, 3, -1, Integer.MAX_VALUE};
        for (int scheme : schemes) {
            Check.due("scheme " + scheme, x.wrap(scheme, 1), -1);
        }
        int[] keys = {0, -1, Own.Q, Integer.MAX_VALUE, Integer.MIN_VALUE};
        for (int key : keys) {
            Check.due("key " + key, x.wrap(1, key), -1);
        }
        Check.due("FULL", x.wrap(1, 1), -3);
        Check.due("THE TAPE stays", x.cut(786), 1);
        Check.due("of 786", x.wrap(1, Own.Q - 1), 800);
        Check.tape("it", x, Own.signed(Own.rowOf(786, 5), 1, Own.Q - 1));
    }

    /** "THE TAPE becomes 48 { it; 4 the SIGNATURE of it }": of nothing, and where its length takes a byte more. */
    static void promise18_lengths() {
        SecureLines x = new SecureLines();
        int[] lengths = {0, 1, 116, 117, 118, 119, 244, 245, 246, 247, 785, 786};
        for (int n : lengths) {
            byte[] due = Own.signed(Own.rowOf(n, 7), 2, 3);
            Own.feed(x, Own.rowOf(n, 7));
            Check.due("of " + n, x.wrap(2, 3), due.length);
            Check.tape("it", x, due);
        }
        int[] above = {787, 788, 799, 800};
        for (int n : above) {
            Own.feed(x, Own.rowOf(n, 7));
            Check.due("of " + n, x.wrap(2, 3), -3);
            Check.due("THE TAPE stays", x.cut(0), n);
        }
    }

    // ---- 19 certificate

    private static int of(byte[]... parts) {
        SecureLines x = new SecureLines();
        int got = Own.hold(x, Own.node(48, Own.node(48, parts), Own.node(4, new byte[8])));
        Check.due("it took THE TAPE", x.cut(0), 0);
        Check.due("it is held or not", x.field(0, 0) == -1 ? 0 : 1, got == 0 ? 1 : 0);
        return got;
    }

    private static int with(byte[]... rest) {
        return of(ONE, NAME, NAME, ZERO, ZERO, ONE, POINT, Own.cat(rest));
    }

    /** "2 SERIAL, 1 at least". */
    static void promise19_serial() {
        Check.due("0", of(ZERO, NAME, NAME, ZERO, ZERO, ONE, POINT), -9);
        Check.due("1", of(ONE, NAME, NAME, ZERO, ZERO, ONE, POINT), 0);
        Check.due("most", of(Own.number(Integer.MAX_VALUE), NAME, NAME, ZERO, ZERO, ONE, POINT), 0);
    }

    /** "2 FROM; 2 TO, not below FROM". */
    static void promise19_times() {
        byte[] five = Own.number(5);
        byte[] most = Own.number(Integer.MAX_VALUE);
        Check.due("one below", of(ONE, NAME, NAME, five, Own.number(4), ONE, POINT), -9);
        Check.due("alike", of(ONE, NAME, NAME, five, five, ONE, POINT), 0);
        Check.due("one above", of(ONE, NAME, NAME, five, Own.number(6), ONE, POINT), 0);
        Check.due("0 and most", of(ONE, NAME, NAME, ZERO, most, ONE, POINT), 0);
        Check.due("most and most", of(ONE, NAME, NAME, most, most, ONE, POINT), 0);
        Check.due("most and 0", of(ONE, NAME, NAME, most, ZERO, ONE, POINT), -9);
    }

    /** "2 SCHEME, 1, 2". */
    static void promise19_scheme() {
        int[] due = {-9, 0, 0, -9};
        for (int scheme = 0; scheme <= 3; scheme++) {
            Check.due("SCHEME " + scheme, of(ONE, NAME, NAME, ZERO, ZERO, Own.number(scheme), POINT), due[scheme]);
        }
        Check.due("SCHEME most", of(ONE, NAME, NAME, ZERO, ZERO, Own.number(Integer.MAX_VALUE), POINT), -9);
        Check.due("SCHEME 257", of(ONE, NAME, NAME, ZERO, ZERO, Own.number(257), POINT), -9);
    }

    /** "4 POINT, 4 bytes": any. */
    static void promise19_point() {
        for (int n = 0; n <= 5; n++) {
            Check.due("of " + n, of(ONE, NAME, NAME, ZERO, ZERO, ONE, Own.node(4, new byte[n])), n == 4 ? 0 : -9);
        }
        Check.due("any", of(ONE, NAME, NAME, ZERO, ZERO, ONE, Own.node(4, Own.rowOf(4, 255))), 0);
    }

    /** "161 without bytes". */
    static void promise19_office() {
        Check.due("without bytes", with(OFFICE), 0);
        Check.due("with one", with(Own.node(161, new byte[1])), -9);
    }

    /** "162 a byte 0 .. 6: DEPTH, for an OFFICE alone". */
    static void promise19_depth() {
        for (int depth = 0; depth <= 8; depth++) {
            Check.due("DEPTH " + depth, with(OFFICE, Own.node(162, Own.bytes(depth))), depth <= 6 ? 0 : -9);
            Check.due("of no OFFICE", with(Own.node(162, Own.bytes(depth))), -9);
        }
        Check.due("DEPTH 255", with(OFFICE, Own.node(162, Own.bytes(255))), -9);
        Check.due("no byte", with(OFFICE, Own.node(162)), -9);
        Check.due("two bytes", with(OFFICE, Own.node(162, Own.bytes(0, 1))), -9);
    }

    /** "163 a byte 1 .. 15: USES". */
    static void promise19_uses() {
        for (int uses = 0; uses <= 17; uses++) {
            Check.due("USES " + uses, with(Own.node(163, Own.bytes(uses))), uses >= 1 && uses <= 15 ? 0 : -9);
        }
        Check.due("USES 255", with(Own.node(163, Own.bytes(255))), -9);
        Check.due("no byte", with(Own.node(163)), -9);
        Check.due("two bytes", with(Own.node(163, Own.bytes(0, 1))), -9);
    }

    /** "164 NAMES: NODES 12 .., 1 to 4; 165 PERMITTED, 166 EXCLUDED: NODES 12, 1 to 4"; "any may be there twice". */
    static void promise19_oneToFourNames() {
        for (int tag = 164; tag <= 166; tag++) {
            byte[] rows = {};
            for (int n = 0; n <= 6; n++) {
                Check.due(tag + " of " + n, with(Own.node(tag, rows)), n >= 1 && n <= 4 ? 0 : -9);
                rows = Own.cat(rows, NAME);
            }
            Check.due("a NUMBER among them", with(Own.node(tag, NAME, ONE)), -9);
            Check.due("NUMBER 97, whose byte is a sign", with(Own.node(tag, NAME, Own.number('a'))), -9);
            Check.due("bytes that would be a NAME", with(Own.node(tag, Own.node(4, Own.text("a")))), -9);
            Check.due("a 48 with a NAME", with(Own.node(tag, Own.node(48, NAME))), -9);
            Check.due("a byte behind", with(Own.node(tag, NAME, Own.bytes(12))), -9);
            Check.due("one beyond", with(Own.node(tag, Own.bytes(12, 2, 'a'))), -9);
            Check.due("an empty NAME", with(Own.node(tag, Own.name(""))), -9);
            Check.due("a NAME of 40", with(Own.node(tag, Own.name(FORTY))), 0);
            Check.due("a NAME of 41", with(Own.node(tag, Own.name("a" + FORTY))), -9);
        }
    }

    /** "a PATTERN is a NAME, or *. and a NAME of two LABELS at least": in 164 alone. */
    static void promise19_patterns() {
        String[] good = {"a", "a.b", "*.a.b", "*.a.b.c", "*." + FORTY, FORTY};
        String[] none = {"*", "*.", "*.a", "*a.b", "**.a.b", "*.*.a.b", "a.*.b", "*..a", "*.a.", "*.a..b", ".a.b", "*." + "a" + FORTY,
            "*.A.b", "*-a.b"};
        for (String pattern : good) {
            Check.due("NAMES " + pattern, with(Own.node(164, Own.name(pattern))), 0);
            int due = pattern.startsWith("*") ? -9 : 0;
            Check.due("PERMITTED " + pattern, with(Own.node(165, Own.name(pattern))), due);
            Check.due("EXCLUDED " + pattern, with(Own.node(166, Own.name(pattern))), due);
        }
        for (String pattern : none) {
            Check.due("NAMES " + pattern, with(Own.node(164, Own.name(pattern))), -9);
        }
        SecureLines x = new SecureLines();
        Check.due("ISSUER is a NAME", Own.hold(x, new Cert("a", "*.a.b", 5).by(5)), -10 - 9);
    }

    /** "then, rising, each once at most". */
    static void promise19_rising() {
        byte[][] rows = {OFFICE, Own.node(162, Own.bytes(1)), Own.node(163, Own.bytes(1)), Own.node(164, NAME), Own.node(165, NAME),
            Own.node(166, NAME)};
        Check.due("none", with(), 0);
        Check.due("all", with(rows), 0);
        for (int i = 0; i < 6; i++) {
            for (int j = 0; j < 6; j++) {
                boolean good = i < j && i != 1 && (j != 1 || i == 0);
                Check.due((161 + i) + ", " + (161 + j), with(rows[i], rows[j]), good ? 0 : -9);
            }
        }
        Check.due("another NODE behind", with(rows[5], NAME), -9);
        Check.due("another NODE ahead", with(NAME, rows[5]), -9);
    }

    /** "48 { INNER; 4 a SIGNATURE (8 bytes) }": nothing lacks, nothing is more. */
    static void promise19_wholeForm() {
        byte[][] parts = {ONE, NAME, NAME, ZERO, ZERO, ONE, POINT};
        for (int lacks = 0; lacks < parts.length; lacks++) {
            byte[][] rest = new byte[parts.length - 1][];
            for (int i = 0; i < rest.length; i++) {
                rest[i] = parts[i < lacks ? i : i + 1];
            }
            Check.due("part " + lacks + " lacks", of(rest), -9);
        }
        byte[] inner = new Cert("s", "i", 9).inner();
        byte[] signature = Own.node(4, new byte[8]);
        byte[][] wrong = {Own.node(48), Own.node(48, inner), Own.node(48, signature), Own.node(48, signature, inner), inner, signature,
            Own.node(48, inner, signature, signature), Own.node(48, inner, Own.node(4, new byte[7])),
            Own.node(48, inner, Own.node(4, new byte[9])), Own.node(48, inner, Own.node(4)), Own.node(48, inner, Own.node(161, new byte[8])),
            Own.node(166, inner, signature), Own.node(48, Own.node(48), signature)};
        for (int i = 0; i < wrong.length; i++) {
            SecureLines x = new SecureLines();
            Check.due("wrong " + i, Own.hold(x, wrong[i]), -9);
            Check.due("it took THE TAPE", x.cut(0), 0);
        }
    }

    /** "-9: a NODE, but .. above 400 bytes"; "None of the three has more than 400 bytes." */
    static void promise19_400BytesAreTheMost() {
        for (int due = 399; due <= 402; due++) {
            byte[] row = certificateOf(due);
            Check.due("its length", row.length, due);
            SecureLines x = new SecureLines();
            Check.due("of " + due, Own.hold(x, row), due <= 400 ? 0 : -9);
            Check.due("it took THE TAPE", x.cut(0), 0);
        }
    }

    private static byte[] certificateOf(int n) {
        return Cert.ofSize(n, FORTY, FORTY, 9, 1);
    }

    /** "CERTIFICATES that are held (30 ..) are numbered from 0; equal bytes are one" - "also when there is no room". */
    static void promise19_30AreHeld() {
        SecureLines x = new SecureLines();
        for (int i = 0; i < 30; i++) {
            Check.due("held", Own.hold(x, new Cert("s", "i", 9).serial(i + 1).by(8)), i);
            Check.due("equal bytes", Own.hold(x, new Cert("s", "i", 9).serial(1 + i / 2).by(8)), i / 2);
        }
        byte[] more = new Cert("s", "i", 9).serial(31).by(8);
        Check.due("the 31st", Own.hold(x, more), -3);
        Check.tape("THE TAPE stays", x, more);
        Check.due("the first again", Own.hold(x, new Cert("s", "i", 9).serial(1).by(8)), 0);
        Check.due("the last again", Own.hold(x, new Cert("s", "i", 9).serial(30).by(8)), 29);
        Check.due("it took THE TAPE", x.cut(0), 0);
        Check.due("none is number 30", x.field(30, 0), -1);
        Check.due("the last", x.field(29, 0), 30);
    }

    /** "-10 less the FAULT's place ..; -9 ..; FULL": in this order. */
    static void promise19_orderOfRefusals() {
        SecureLines x = new SecureLines();
        for (int i = 0; i < 30; i++) {
            Own.hold(x, new Cert("s", "i", 9).serial(i + 1).by(8));
        }
        Check.due("no NODE ahead of FULL", Own.hold(x, Own.bytes(48, 1)), -11);
        Check.due("-9 ahead of FULL", Own.hold(x, ONE), -9);
        Check.due("above 400 ahead of FULL", Own.hold(x, certificateOf(401)), -9);
        byte[] row = certificateOf(402);
        row[row.length - 10] = 5;
        Check.due("no NODE ahead of above 400", Own.hold(x, row), -10 - (row.length - 10));
        Check.due("nothing", x.certificate(), -10);
    }

    // ---- 20 list

    private static int list(SecureLines x, byte[] row) {
        Own.feed(x, row);
        return x.list();
    }

    private static int serials(int... serials) {
        SecureLines x = new SecureLines();
        int got = list(x, Cert.list("i", 1, 5, 5, 1, 9, serials));
        Check.due("it took THE TAPE", x.cut(0), 0);
        return got;
    }

    /** "4 SERIALS, FOURs that rise, 1 at least each, 40 at most". */
    static void promise20_serials() {
        int[] many = new int[42];
        for (int i = 0; i < 42; i++) {
            many[i] = i + 1;
        }
        for (int n = 0; n <= 42; n++) {
            Check.due("of " + n, serials(Arrays.copyOf(many, n)), n <= 40 ? 0 : -9);
        }
        Check.due("0", serials(0), -9);
        Check.due("1", serials(1), 0);
        Check.due("-1", serials(-1), -9);
        Check.due("least", serials(Integer.MIN_VALUE), -9);
        Check.due("most", serials(Integer.MAX_VALUE), 0);
        Check.due("alike", serials(3, 3), -9);
        Check.due("falling", serials(3, 2), -9);
        Check.due("rising by one", serials(3, 4), 0);
        Check.due("1 and most", serials(1, Integer.MAX_VALUE), 0);
        Check.due("1 and below 0", serials(1, Integer.MIN_VALUE), -9);
        for (int n = 1; n <= 7; n++) {
            SecureLines x = new SecureLines();
            byte[] row = Own.part(Own.cat(Own.four(1), Own.four(2)), 0, n);
            byte[] inner = Own.node(48, NAME, ONE, ONE, ONE, ONE, Own.node(4, row));
            Check.due("of " + n + " bytes", list(x, Own.signed(inner, 1, 9)), n == 4 ? 0 : -9);
        }
    }

    /** "12 ISSUER; 2 number; 2 FROM; 2 TO, not below FROM; 2 SCHEME". */
    static void promise20_numberAndTimes() {
        SecureLines x = new SecureLines();
        Check.due("number 0", list(x, Cert.list("i", 0, 5, 5, 1, 9)), 0);
        Check.due("number most", list(x, Cert.list("i", Integer.MAX_VALUE, 5, 5, 2, 9)), 1);
        Check.due("TO below FROM", list(x, Cert.list("i", 1, 5, 4, 1, 9)), -9);
        Check.due("TO above FROM", list(x, Cert.list("i", 1, 5, Integer.MAX_VALUE, 1, 9)), 2);
        Check.due("SCHEME 0", list(x, Cert.list("i", 1, 5, 5, 0, 9)), -9);
        Check.due("SCHEME 3", list(x, Cert.list("i", 1, 5, 5, 3, 9)), -9);
        Check.due("ISSUER of 41", list(x, Cert.list("a" + FORTY, 1, 5, 5, 1, 9)), -10 - 46);
        Check.due("ISSUER of 40", list(x, Cert.list(FORTY, 1, 5, 5, 1, 9)), 3);
    }

    /** "Likewise a LIST" (12 are held); "equal ones are held twice"; "-10 less .., -9, FULL". */
    static void promise20_12AreHeld() {
        SecureLines x = new SecureLines();
        byte[] row = Cert.list("i", 1, 5, 5, 1, 9, 4);
        for (int i = 0; i < 12; i++) {
            Check.due("held", list(x, row), i);
            Check.due("it took THE TAPE", x.cut(0), 0);
        }
        Check.due("the 13th", list(x, row), -3);
        Check.tape("THE TAPE stays", x, row);
        Check.due("-9 ahead of FULL", list(x, Cert.answer("i", 1, 0, 5, 5, 1, 9)), -9);
        Check.due("no NODE ahead of FULL", list(x, Own.cat(row, new byte[1])), -10 - row.length);
        Check.due("nothing", x.list(), -10);
        Check.due("ANSWERS have their own room", answer(x, Cert.answer("i", 1, 0, 5, 5, 1, 9)), 0);
        Check.due("CERTIFICATES, too", Own.hold(x, new Cert("s", "i", 9).by(8)), 0);
    }

    /** "-9": nothing lacks, nothing is more, and no CERTIFICATE is a LIST. */
    static void promise20_wholeForm() {
        byte[][] parts = {NAME, ONE, ONE, ONE, ONE, Own.node(4, Own.four(1))};
        SecureLines x = new SecureLines();
        Check.due("whole", list(x, Own.signed(Own.node(48, parts), 1, 9)), 0);
        for (int lacks = 0; lacks < parts.length; lacks++) {
            byte[] inner = {};
            for (int i = 0; i < parts.length; i++) {
                inner = i == lacks ? inner : Own.cat(inner, parts[i]);
            }
            Check.due("part " + lacks + " lacks", list(x, Own.signed(Own.node(48, inner), 1, 9)), -9);
        }
        Check.due("one more", list(x, Own.signed(Own.node(48, Own.cat(parts), ONE), 1, 9)), -9);
        Check.due("SIGNATURE of 7", list(x, Own.node(48, Own.node(48, parts), Own.node(4, new byte[7]))), -9);
        Check.due("a CERTIFICATE", list(x, new Cert("s", "i", 9).by(8)), -9);
    }

    /** "above 400 bytes": a NODE of 400, 401, 800 bytes is no LIST, and no ANSWER; a FAULT in it is told ahead of that. */
    static void promise20_aboveFourHundred() {
        int[] sizes = {400, 401, 800};
        for (int size : sizes) {
            byte[] row = Own.node(48, Own.node(4, new byte[size - 8]));
            Check.due("its length", row.length, size);
            SecureLines x = new SecureLines();
            Check.due("a LIST of " + size, list(x, row), -9);
            Check.due("an ANSWER of " + size, answer(x, row), -9);
            Check.due("a CERTIFICATE of " + size, Own.hold(x, row), -9);
            row[0] = 49;
            Check.due("no NODE of " + size, list(x, row), -10);
            Check.due("no NODE of " + size, answer(x, row), -10);
        }
    }

    // ---- 21 answer

    private static int answer(SecureLines x, byte[] row) {
        Own.feed(x, row);
        return x.answer();
    }

    /** "2 state, 0 or 1"; "2 FROM; 2 TO, not below FROM; 2 SCHEME". */
    static void promise21_stateAndTimes() {
        int[] states = {0, 0, -9, -9};
        for (int state = 0; state < 4; state++) {
            Check.due("state " + state, answer(new SecureLines(), Cert.answer("i", 1, state, 5, 5, 1, 9)), states[state]);
            Check.due("SCHEME " + state, answer(new SecureLines(), Cert.answer("i", 1, 0, 5, 5, state, 9)),
                state == 1 || state == 2 ? 0 : -9);
            Check.due("FROM 1, TO " + state, answer(new SecureLines(), Cert.answer("i", 1, 0, 1, state, 1, 9)), state >= 1 ? 0 : -9);
        }
        Check.due("SERIAL most", answer(new SecureLines(), Cert.answer("i", Integer.MAX_VALUE, 0, 5, 5, 1, 9)), 0);
        Check.due("state most", answer(new SecureLines(), Cert.answer("i", 1, Integer.MAX_VALUE, 5, 5, 1, 9)), -9);
    }

    /** "Likewise an ANSWER": 12 are held, equal ones twice; "-10 less .., -9, FULL". */
    static void promise21_12AreHeld() {
        SecureLines x = new SecureLines();
        byte[] row = Cert.answer("i", 1, 1, 5, 5, 1, 9);
        for (int i = 0; i < 12; i++) {
            Check.due("held", answer(x, row), i);
            Check.due("it took THE TAPE", x.cut(0), 0);
        }
        Check.due("the 13th", answer(x, row), -3);
        Check.tape("THE TAPE stays", x, row);
        Check.due("-9 ahead of FULL", answer(x, Cert.list("i", 1, 5, 5, 1, 9)), -9);
        Check.due("no NODE ahead of FULL", answer(x, Own.cat(row, new byte[1])), -10 - row.length);
        Check.due("nothing", x.answer(), -10);
        Check.due("LISTS have their own room", list(x, Cert.list("i", 1, 5, 5, 1, 9)), 0);
    }

    /** "-9": nothing lacks, nothing is more. */
    static void promise21_wholeForm() {
        byte[][] parts = {NAME, ONE, ONE, ONE, ONE, ONE};
        SecureLines x = new SecureLines();
        Check.due("whole", answer(x, Own.signed(Own.node(48, parts), 1, 9)), 0);
        for (int lacks = 0; lacks < parts.length; lacks++) {
            byte[] inner = {};
            for (int i = 0; i < parts.length; i++) {
                inner = i == lacks ? inner : Own.cat(inner, parts[i]);
            }
            Check.due("part " + lacks + " lacks", answer(x, Own.signed(Own.node(48, inner), 1, 9)), -9);
        }
        Check.due("one more", answer(x, Own.signed(Own.node(48, Own.cat(parts), ONE), 1, 9)), -9);
        Check.due("SIGNATURE of 9", answer(x, Own.node(48, Own.node(48, parts), Own.node(4, new byte[9]))), -9);
    }

    // ---- 22 field, 23 text

    private static SecureLines held() {
        SecureLines x = new SecureLines();
        Own.hold(x, new Cert("s", "i", 9).by(8));
        Own.hold(x, new Cert("s.t", "i.j", 9).serial(Integer.MAX_VALUE).times(Integer.MAX_VALUE, Integer.MAX_VALUE).scheme(2).office()
            .depth(0).uses(1).names("a", "b", "c", "*.d.e").permitted("f").excluded("g", "h").by(8));
        return x;
    }

    /** "BAD": no such CERTIFICATE, no such number. */
    static void promise22_cAndWhat() {
        SecureLines x = held();
        int[] bad = {2, -1, 30, Integer.MIN_VALUE, Integer.MAX_VALUE};
        for (int c : bad) {
            Check.due("field(" + c + ", 0)", x.field(c, 0), -1);
        }
        int[] whats = {-1, 12, Integer.MIN_VALUE, Integer.MAX_VALUE};
        for (int what : whats) {
            Check.due("field(0, " + what + ")", x.field(0, what), -1);
            Check.due("field(1, " + what + ")", x.field(1, what), -1);
        }
    }

    /** "6 DEPTH (NONE), 7 USES (15 without), 8 to 10 how many": without them, and the least and the most. */
    static void promise22_withoutAndWith() {
        SecureLines x = held();
        int[] without = {1, 0, 1000, 1, Own.keyPoint(9), 0, -4, 15, 0, 0, 0};
        int[] with = {Integer.MAX_VALUE, Integer.MAX_VALUE, Integer.MAX_VALUE, 2, Own.keyPoint(9), 1, 0, 1, 4, 1, 2};
        for (int what = 0; what <= 10; what++) {
            Check.due("field(0, " + what + ")", x.field(0, what), without[what]);
            Check.due("field(1, " + what + ")", x.field(1, what), with[what]);
        }
        Own.hold(x, new Cert("s", "i", 9).office().by(8));
        Check.due("an OFFICE without DEPTH", x.field(2, 6), -4);
        int[] points = {0, -1, Integer.MIN_VALUE, Integer.MAX_VALUE};
        for (int i = 0; i < points.length; i++) {
            Cert cert = new Cert("s", "i", 9);
            cert.point = points[i];
            Own.hold(x, cert.by(8));
            Check.due("POINT with its sign", x.field(3 + i, 4), points[i]);
        }
        Own.hold(x, certificateOf(400));
        Check.due("how many bytes", x.field(7, 11), 400);
    }

    /** "BAD: also none such"; OUT stays then. */
    static void promise23_cAndWhat() {
        SecureLines x = held();
        x.text(1, 8, 3);
        int[][] bad = {{2, 0, 0}, {-1, 0, 0}, {0, 2, 0}, {0, 7, 0}, {0, 12, 0}, {0, -1, 0}, {0, 8, 0}, {0, 9, 0}, {0, 10, 0}, {1, 8, 4},
            {1, 8, -1}, {1, 9, 1}, {1, 9, -1}, {1, 10, 2}, {1, 10, -1}, {1, 8, Integer.MAX_VALUE}, {1, 8, Integer.MIN_VALUE},
            {1, Integer.MAX_VALUE, 0}, {1, Integer.MIN_VALUE, 0}, {30, 11, 0}};
        for (int[] call : bad) {
            Check.due("text" + Arrays.toString(call), x.text(call[0], call[1], call[2]), -1);
        }
        Check.out("OUT stays", x, Own.text("*.d.e"));
    }

    /** "(k counts for 8 to 10 alone)". */
    static void promise23_kCountsFor8To10Alone() {
        SecureLines x = held();
        int[] ks = {0, -1, 4, Integer.MIN_VALUE, Integer.MAX_VALUE};
        for (int k : ks) {
            Check.due("ISSUER", x.text(1, 0, k), 3);
            Check.out("it", x, Own.text("i.j"));
            Check.due("SUBJECT", x.text(1, 1, k), 3);
            Check.out("it", x, Own.text("s.t"));
            Check.due("its bytes", x.text(1, 11, k), x.field(1, 11));
        }
        String[][] names = {{"a", "b", "c", "*.d.e"}, {"f"}, {"g", "h"}};
        for (int i = 0; i < 3; i++) {
            for (int k = 0; k < names[i].length; k++) {
                Check.due("NAMES, ..", x.text(1, 8 + i, k), names[i][k].length());
                Check.out("it", x, Own.text(names[i][k]));
            }
        }
    }
}
