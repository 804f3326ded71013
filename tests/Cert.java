import java.util.ArrayList;
import java.util.List;

/** A CERTIFICATE to be made, part by part. */
final class Cert {
    int serial = 1;
    String issuer = "root";
    String subject = "root";
    int from = 0;
    int to = 1000;
    int scheme = 1;
    int point;
    boolean office;
    int depth = -1;
    int uses = -1;
    String[] names = {};
    String[] permitted = {};
    String[] excluded = {};

    Cert(String subject, String issuer, int key) {
        this.subject = subject;
        this.issuer = issuer;
        this.point = Own.keyPoint(key);
    }

    Cert serial(int v) {
        serial = v;
        return this;
    }

    Cert times(int first, int last) {
        from = first;
        to = last;
        return this;
    }

    Cert scheme(int v) {
        scheme = v;
        return this;
    }

    Cert office() {
        office = true;
        return this;
    }

    Cert depth(int v) {
        depth = v;
        return this;
    }

    Cert uses(int v) {
        uses = v;
        return this;
    }

    Cert names(String... v) {
        names = v;
        return this;
    }

    Cert permitted(String... v) {
        permitted = v;
        return this;
    }

    Cert excluded(String... v) {
        excluded = v;
        return this;
    }

    private static byte[] rows(String[] names) {
        byte[] got = {};
        for (String name : names) {
            got = Own.cat(got, Own.name(name));
        }
        return got;
    }

    byte[] inner() {
        List<byte[]> rows = new ArrayList<>();
        rows.add(Own.number(serial));
        rows.add(Own.name(issuer));
        rows.add(Own.name(subject));
        rows.add(Own.number(from));
        rows.add(Own.number(to));
        rows.add(Own.number(scheme));
        rows.add(Own.node(4, Own.four(point)));
        if (office) {
            rows.add(Own.node(161));
        }
        if (depth >= 0) {
            rows.add(Own.node(162, Own.bytes(depth)));
        }
        if (uses >= 0) {
            rows.add(Own.node(163, Own.bytes(uses)));
        }
        if (names.length > 0) {
            rows.add(Own.node(164, rows(names)));
        }
        if (permitted.length > 0) {
            rows.add(Own.node(165, rows(permitted)));
        }
        if (excluded.length > 0) {
            rows.add(Own.node(166, rows(excluded)));
        }
        return Own.node(48, rows.toArray(new byte[0][]));
    }

    /** Signed by the issuer's key. */
    byte[] by(int key) {
        return Own.signed(inner(), scheme, key);
    }

    /** One of so many bytes, by how many names it has and how long the last is; no bytes if there is none. */
    static byte[] ofSize(int size, String subject, String issuer, int key, int by) {
        for (int count = 0; count < 12; count++) {
            for (int n = 1; n <= 40; n++) {
                String[][] rows = new String[3][0];
                for (int i = 0; i <= count; i++) {
                    String[] row = java.util.Arrays.copyOf(rows[i / 4], i % 4 + 1);
                    row[i % 4] = "a".repeat(i == count ? n : 40);
                    rows[i / 4] = row;
                }
                byte[] got = new Cert(subject, issuer, key).serial(9).names(rows[0]).permitted(rows[1]).excluded(rows[2]).by(by);
                if (got.length == size) {
                    return got;
                }
            }
        }
        return new byte[0];
    }

    static byte[] list(String issuer, int number, int from, int to, int scheme, int key, int... serials) {
        byte[] rows = {};
        for (int serial : serials) {
            rows = Own.cat(rows, Own.four(serial));
        }
        byte[] inner = Own.node(48, Own.name(issuer), Own.number(number), Own.number(from), Own.number(to),
            Own.number(scheme), Own.node(4, rows));
        return Own.signed(inner, scheme, key);
    }

    static byte[] answer(String issuer, int serial, int state, int from, int to, int scheme, int key) {
        byte[] inner = Own.node(48, Own.name(issuer), Own.number(serial), Own.number(state), Own.number(from),
            Own.number(to), Own.number(scheme));
        return Own.signed(inner, scheme, key);
    }
}
