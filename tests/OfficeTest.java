import java.util.Arrays;

/** Promises 52 to 61: the office. */
public final class OfficeTest {
    private static final int KEY = 41;

    public static void main(String[] args) {
        offices();
        accounts();
        orders();
        zones();
        challenges();
        issues();
        revocations();
        numbers();
        answers();
        rooms();
        onPaths();
        Check.end("OfficeTest");
    }

    /** An object with an OFFICE 0 of certificate 0, whose accounts 0 and 1 have SECRETS 100 and 101. */
    private static SecureLines with() {
        SecureLines x = new SecureLines();
        Own.hold(x, new Cert("of.fice", "root", KEY).office().by(9));
        Check.due("office", x.office(0, KEY, 1), 0);
        x.account(0, 100);
        x.account(0, 101);
        return x;
    }

    private static int order(SecureLines x, int account, String patterns) {
        Own.feed(x, Own.text(patterns));
        return x.order(0, account);
    }

    private static int zone(SecureLines x, String name, long secret) {
        Own.feed(x, Own.text(name));
        return x.zone(secret);
    }

    private static void offices() {
        SecureLines x = new SecureLines();
        Own.hold(x, new Cert("a", "a", KEY).office().by(9));
        Own.hold(x, new Cert("b", "b", KEY).by(9));
        Check.due("certificate 2", x.office(2, KEY, 1), -1);
        Check.due("certificate -1", x.office(-1, KEY, 1), -1);
        Check.due("key 0", x.office(0, 0, 1), -1);
        Check.due("key q", x.office(0, Own.Q, 1), -1);
        Check.due("scheme 0", x.office(0, KEY, 0), -1);
        Check.due("scheme 3", x.office(0, KEY, 3), -1);
        Check.due("no OFFICE", x.office(1, KEY, 1), -2);
        Check.due("another KEY", x.office(0, KEY + 1, 1), -2);
        for (int i = 0; i < 4; i++) {
            Check.due("office", x.office(0, KEY, 1 + i % 2), i);
        }
        Check.due("the fifth", x.office(0, KEY, 1), -3);
        Check.due("NO ahead of FULL", x.office(1, KEY, 1), -2);
        Check.due("BAD ahead of FULL", x.office(0, KEY, 3), -1);
    }

    private static void accounts() {
        SecureLines x = with();
        Check.due("no office", x.account(1, 5), -1);
        Check.due("office -1", x.account(-1, 5), -1);
        for (int i = 2; i < 8; i++) {
            Check.due("account", x.account(0, i), i);
        }
        Check.due("the ninth", x.account(0, 5), -3);
    }

    private static void orders() {
        SecureLines x = with();
        Check.due("nothing", order(x, 0, ""), -2);
        String[] wrong = {",", "a,", ",a", "a,,b", "a,b,c,d", "a,a", "a,b,a", "a,b,b", "*.a", "A", "a b", "a.,b", "*.a.b,*.a.b", "*"};
        for (String patterns : wrong) {
            Check.due("order " + patterns, order(x, 0, patterns), -2);
            Check.due("not taken", x.cut(0), patterns.length());
        }
        Own.feed(x, Own.text("a"));
        Check.due("no office", x.order(1, 0), -1);
        Check.due("no account", x.order(0, 2), -1);
        Check.due("account -1", x.order(0, -1), -1);
        Check.due("an order", x.order(0, 1), 0);
        Check.due("taken", x.cut(0), 0);
        Check.due("another", order(x, 0, "*.b.c,b.c,d"), 1);
        int[][] facts = {{0, 0, 0}, {0, 1, 1}, {0, 2, 1}, {0, 3, -4}, {0, 10, 1}, {0, 20, 0}, {0, 11, -1}, {0, 21, -1},
            {1, 0, 0}, {1, 1, 0}, {1, 2, 3}, {1, 3, -4}, {1, 10, 2}, {1, 11, 3}, {1, 12, 4}, {1, 13, -1}, {1, 20, 0},
            {1, 21, 0}, {1, 22, 0}, {1, 23, -1}, {1, 4, -1}, {1, 9, -1}, {1, -1, -1}, {1, 30, -1}, {1, 32, -1}, {1, 120, -1},
            {2, 0, -1}, {-1, 0, -1}};
        for (int[] fact : facts) {
            Check.due("ordered(0, " + fact[0] + ", " + fact[1] + ")", x.ordered(0, fact[0], fact[1]), fact[2]);
        }
        Check.due("no office", x.ordered(1, 0, 0), -1);
        for (int i = 2; i < 12; i++) {
            Check.due("order", order(x, 0, "a"), i);
        }
        Check.due("FULL", order(x, 0, "a"), -3);
        Check.due("not taken", x.cut(0), 1);
        Check.due("NO ahead of FULL", order(x, 0, "a,a"), -2);
        x.cut(0);
        String wide = "abcdefghijklmnopqrstuvwxyz0123456789a.cd";
        SecureLines y = with();
        Check.due("three of 42", order(y, 0, "*." + wide + ",*.b" + wide.substring(1) + ",*.c" + wide.substring(1)), 0);
        Check.due("of 43", order(y, 0, "*.a" + wide), -2);
    }

    private static void zones() {
        SecureLines x = new SecureLines();
        Check.due("nothing", x.zone(5), -2);
        Check.due("a PATTERN", zone(x, "*.a.b", 5), -2);
        Check.due("not taken", x.cut(0), 5);
        for (int i = 1; i <= 16; i++) {
            Check.due("zone", zone(x, "n" + i, i), i);
        }
        Check.due("taken", x.cut(0), 0);
        Check.due("one that is there", zone(x, "n7", 99), 16);
        Check.due("FULL", zone(x, "n17", 5), -3);
        Check.due("not taken", x.cut(0), 3);
        Check.due("NO ahead of FULL", zone(x, "n17.", 5), -2);
    }

    private static long due(long secret, int token) {
        return Own.derived(0, secret, 'z', token);
    }

    private static void challenges() {
        SecureLines x = with();
        order(x, 1, "a");
        order(x, 0, "*.b.c,b.c,d");
        order(x, 0, "e,f");
        Check.due("no office", x.challenge(1, 0, 0), -1);
        Check.due("order 3", x.challenge(0, 3, 0), -1);
        Check.due("no order", x.challenge(0, 4, 0), -1);
        Check.due("order -1", x.challenge(0, -1, 0), -1);
        Check.due("k 1", x.challenge(0, 0, 1), -1);
        Check.due("k -1", x.challenge(0, 0, -1), -1);
        order(x, 0, "g,h");
        zone(x, "h", due(100, 8));
        Check.due("the second first", x.challenge(0, 3, 1), 1);
        Check.due("PENDING", x.ordered(0, 3, 0), 0);
        zone(x, "a", due(101, 1));
        Check.due("met", x.challenge(0, 0, 0), 1);
        Check.due("READY", x.ordered(0, 0, 0), 1);
        Check.due("right", x.ordered(0, 0, 20), 1);
        Check.due("not PENDING", x.challenge(0, 0, 0), -2);
        // without *.; one name for both
        zone(x, "b.c", due(100, 2));
        Check.due("met", x.challenge(0, 1, 0), 1);
        Check.due("PENDING", x.ordered(0, 1, 0), 0);
        Check.due("looked at", x.challenge(0, 1, 0), -2);
        zone(x, "b.c", due(100, 3));
        Check.due("met", x.challenge(0, 1, 1), 1);
        Check.due("PENDING", x.ordered(0, 1, 0), 0);
        zone(x, "d", due(101, 4));
        Check.due("another ACCOUNT's", x.challenge(0, 1, 2), 2);
        Check.due("INVALID", x.ordered(0, 1, 0), 3);
        Check.due("wrong", x.ordered(0, 1, 22), 2);
        Check.due("right stays", x.ordered(0, 1, 20), 1);
        Check.due("not in THE ZONE", x.challenge(0, 2, 1), 2);
        Check.due("INVALID", x.ordered(0, 2, 0), 3);
        Check.due("not PENDING", x.challenge(0, 2, 0), -2);
        Check.due("open", x.ordered(0, 2, 20), 0);
    }

    private static SecureLines ready(String patterns) {
        SecureLines x = with();
        order(x, 0, patterns);
        ready(x, 0, patterns);
        return x;
    }

    private static void ready(SecureLines x, int order, String patterns) {
        String[] each = patterns.split(",");
        for (int k = 0; k < each.length; k++) {
            int token = x.ordered(0, order, 10 + k);
            zone(x, each[k].startsWith("*.") ? each[k].substring(2) : each[k], due(100, token));
            Check.due("challenge", x.challenge(0, order, k), 1);
        }
        Check.due("READY", x.ordered(0, order, 0), 1);
    }

    private static void issues() {
        SecureLines x = ready("*.b.c,d");
        x.tick(7);
        int y = Own.keyPoint(55);
        Check.due("no office", x.issue(1, 0, y, 5), -1);
        Check.due("no order", x.issue(0, 1, y, 5), -1);
        Check.due("POINT 1", x.issue(0, 0, 1, 5), -1);
        Check.due("POINT p - 1", x.issue(0, 0, Own.P - 1, 5), -1);
        Check.due("minutes 0", x.issue(0, 0, y, 0), -1);
        Check.due("minutes 1000001", x.issue(0, 0, y, 1000001), -1);
        Check.due("issue", x.issue(0, 0, y, 5), 1);
        Check.due("VALID", x.ordered(0, 0, 0), 2);
        Check.due("ISSUED", x.ordered(0, 0, 3), 1);
        Check.due("not READY", x.issue(0, 0, y, 5), -2);
        byte[] due = new Cert("b.c", "of.fice", 55).serial(1).times(7, 12).uses(3).names("*.b.c", "d").by(KEY);
        x.text(1, 11, 0);
        Check.that("its bytes", Arrays.equals(Own.out(x), due));
        order(x, 0, "e");
        Check.due("PENDING", x.issue(0, 1, y, 5), -2);
        ready(x, 1, "e");
        Check.due("any POINT", x.issue(0, 1, 2, 1000000), 2);
        int[] times = {127, 128, 32767, 32768, 8388607, 8388608};
        for (int time : times) {
            SecureLines v = with();
            order(v, 0, "q");
            ready(v, 0, "q");
            for (int left = time; left > 0; left -= Math.min(left, 1000000)) {
                v.tick(Math.min(left, 1000000));
            }
            Check.due("issue", v.issue(0, 0, Own.P - 2, 1), 1);
            byte[] want = pointed(new Cert("q", "of.fice", 55).serial(1).times(time, time + 1).uses(3).names("q"), Own.P - 2);
            v.text(1, 11, 0);
            Check.that("its bytes at " + time, Arrays.equals(Own.out(v), want));
        }
        due = pointed(new Cert("e", "of.fice", 55).serial(2).times(7, 1000007).uses(3).names("e"), 2);
        x.text(2, 11, 0);
        Check.that("its bytes", Arrays.equals(Own.out(x), due));
        // by scheme 2, the greatest
        String wide = "abcdefghijklmnopqrstuvwxyz0123456789a.cd";
        SecureLines z = new SecureLines();
        Own.hold(z, new Cert(wide, "root", KEY).office().by(9));
        z.office(0, KEY, 2);
        z.account(0, 100);
        for (int i = 0; i < 2000; i++) {
            z.tick(1000000);
        }
        String patterns = "*." + wide + ",*.b" + wide.substring(1) + ",*.c" + wide.substring(1);
        order(z, 0, patterns);
        ready(z, 0, patterns);
        Check.due("issue", z.issue(0, 0, y, 1000000), 1);
        due = new Cert(wide, wide, 55).serial(1).scheme(2).times(2000000000, 2001000000).uses(3).names(patterns.split(",")).by(KEY);
        z.text(1, 11, 0);
        Check.that("its bytes", Arrays.equals(Own.out(z), due));
        // the one with the same bytes
        SecureLines w = ready("d");
        Own.hold(w, new Cert("d", "of.fice", 55).serial(1).times(0, 9).uses(3).names("d").by(KEY));
        Check.due("the same bytes", w.issue(0, 0, y, 9), 1);
        Check.due("VALID", w.ordered(0, 0, 0), 2);
        Check.due("no more is held", w.field(2, 0), -1);
        Check.due("it was given", w.revoke(0, 1), 1);
    }

    private static byte[] pointed(Cert cert, int point) {
        cert.point = point;
        return cert.by(KEY);
    }

    private static void revocations() {
        SecureLines x = with();
        for (int i = 0; i < 3; i++) {
            order(x, 0, "a" + i);
            ready(x, i, "a" + i);
            x.issue(0, i, Own.keyPoint(55), 9);
        }
        Check.due("no office", x.revoke(1, 1), -1);
        Check.due("serial 0", x.revoke(0, 0), -1);
        Check.due("serial 4", x.revoke(0, 4), -1);
        Check.due("serial -1", x.revoke(0, -1), -1);
        Check.due("publish no office", x.publish(1, 5), -1);
        Check.due("publish 0 minutes", x.publish(0, 0), -1);
        Check.due("publish 1000001 minutes", x.publish(0, 1000001), -1);
        Check.due("publish", x.publish(0, 5), 0);
        Check.due("revoke 3", x.revoke(0, 3), 1);
        Check.due("revoke 3 again", x.revoke(0, 3), -2);
        Check.due("revoke 1", x.revoke(0, 1), 2);
        x.tick(2);
        Check.due("publish", x.publish(0, 1000000), 1);
        Check.due("status", x.status(1, 0, 2), 1);
        Check.due("status", x.status(2, 0, 2), 0);
        Check.due("status", x.status(3, 0, 2), 1);
        Check.due("by the first LIST", x.status(3, 0, 1), 0);
        Check.due("revoke 2", x.revoke(0, 2), 3);
        for (int i = 2; i < 12; i++) {
            Check.due("publish", x.publish(0, 5), i);
        }
        Check.due("FULL", x.publish(0, 5), -3);
        Check.due("BAD ahead of FULL", x.publish(0, 0), -1);
        Check.due("status", x.status(2, 0, 2), 1);
    }

    /** The numbers of an office's LISTS, by LISTS of its key that are held beside them. */
    private static void numbers() {
        SecureLines x = ready("a");
        x.issue(0, 0, Own.keyPoint(55), 9);
        Own.feed(x, Cert.list("of.fice", 1, 0, 9, 1, KEY, 1));
        x.list();
        x.publish(0, 5);
        Check.due("the first is 1, and came last", x.status(1, 0, 0), 0);
        Own.feed(x, Cert.list("of.fice", 2, 0, 9, 1, KEY, 1));
        x.list();
        Check.due("the first is below 2", x.status(1, 0, 0), 1);
        x.publish(0, 5);
        Check.due("the second is 2, and came last", x.status(1, 0, 0), 0);
        Own.feed(x, Cert.list("of.fice", 4, 0, 9, 1, KEY, 1));
        x.list();
        x.publish(0, 5);
        Check.due("the third is below 4", x.status(1, 0, 0), 1);
        for (int i = 6; i < 12; i++) {
            Own.feed(x, Cert.list("of.fice", 0, 0, 9, 1, KEY));
            x.list();
        }
        Check.due("FULL", x.publish(0, 5), -3);
    }

    private static void answers() {
        SecureLines x = ready("a");
        Check.due("nothing was given", x.respond(0, 1, 5), -1);
        x.issue(0, 0, Own.keyPoint(55), 9);
        Check.due("no office", x.respond(1, 1, 5), -1);
        Check.due("serial 0", x.respond(0, 0, 5), -1);
        Check.due("serial 2", x.respond(0, 2, 5), -1);
        Check.due("0 minutes", x.respond(0, 1, 0), -1);
        Check.due("1000001 minutes", x.respond(0, 1, 1000001), -1);
        Check.due("respond", x.respond(0, 1, 3), 0);
        Check.due("status", x.status(1, 0, 3), 0);
        Check.due("status", x.status(1, 0, 4), 2);
        x.revoke(0, 1);
        Check.due("respond", x.respond(0, 1, 3), 1);
        Check.due("status", x.status(1, 0, 3), 1);
        for (int i = 2; i < 12; i++) {
            Check.due("respond", x.respond(0, 1, 5), i);
        }
        Check.due("FULL", x.respond(0, 1, 5), -3);
    }

    private static void rooms() {
        SecureLines x = ready("a");
        for (int i = 1; i < 30; i++) {
            Own.hold(x, new Cert("n" + i, "n", 5).by(5));
        }
        Check.due("30 are held", x.issue(0, 0, Own.keyPoint(55), 9), -3);
        Check.due("still READY", x.ordered(0, 0, 0), 1);
        Check.due("none ISSUED", x.ordered(0, 0, 3), -4);
        Check.due("nothing was given", x.revoke(0, 1), -1);
        Check.due("BAD ahead of FULL", x.issue(0, 0, 1, 9), -1);
        order(x, 0, "b");
        Check.due("NO ahead of FULL", x.issue(0, 1, Own.keyPoint(55), 9), -2);
        // also when what would be ISSUED is one of the 30
        SecureLines w = ready("d");
        Own.hold(w, new Cert("d", "of.fice", 55).serial(1).times(0, 9).uses(3).names("d").by(KEY));
        for (int i = 2; i < 30; i++) {
            Own.hold(w, new Cert("n" + i, "n", 5).by(5));
        }
        Check.due("30 are held, the same bytes", w.issue(0, 0, Own.keyPoint(55), 9), -3);
        Check.due("still READY", w.ordered(0, 0, 0), 1);
    }

    /** What an office gives is good on a PATH, and its LISTS and ANSWERS are those of its CERTIFICATE. */
    private static void onPaths() {
        for (int scheme = 1; scheme <= 2; scheme++) {
            SecureLines x = new SecureLines();
            Own.hold(x, new Cert("root", "root", KEY).office().scheme(3 - scheme).by(KEY));
            x.office(0, KEY, scheme);
            x.account(0, 100);
            order(x, 0, "a.b");
            ready(x, 0, "a.b");
            int c = x.issue(0, 0, Own.keyPoint(55), 50);
            x.end(0);
            x.trust(0, 0);
            x.setting(0, 0, 1);
            Check.due("UNKNOWN", x.build(0, c, 5, 1), 0);
            x.publish(0, 50);
            Check.due("build", x.build(0, c, 5, 1), 2);
            Check.due("build", x.build(0, c, 5, 2), 2);
            x.revoke(0, 1);
            x.respond(0, 1, 50);
            Check.due("REVOKED", x.build(0, c, 5, 1), 0);
            x.row(c);
            x.row(0);
            Check.due("judge", x.judge(0, 5, 1), 8);
            x.row(c);
            x.row(0);
            Check.due("judge later", x.judge(0, 51, 1), 3);
        }
    }
}
