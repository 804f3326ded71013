import java.util.Arrays;

/** Promises 52 to 61 at their bounds: the office. */
public final class BoundsOfficeTest {
    private static final int KEY = 41;
    private static final int POINT = Own.keyPoint(55);
    private static final String FORTY = "abcdefghijklmnopqrstuvwxyz0123456789-a.c";
    /** None of these is an office, or an order, where one is. */
    private static final int[] NONE_SUCH = {-1, 1, 4, 12, Integer.MIN_VALUE, Integer.MAX_VALUE};
    private static final int[] NO_MINUTES = {0, -1, 1000001, Integer.MIN_VALUE, Integer.MAX_VALUE};

    public static void main(String[] args) throws ReflectiveOperationException {
        Bounds.run(BoundsOfficeTest.class);
    }

    private static byte[] officePaper() {
        return new Cert("of.fice", "root", KEY).office().by(9);
    }

    /** An object with an OFFICE 0 of CERTIFICATE 0, whose ACCOUNT 0 has SECRET 100. */
    private static SecureLines with() {
        SecureLines x = new SecureLines();
        Own.hold(x, officePaper());
        Check.due("office", x.office(0, KEY, 1), 0);
        Check.due("account", x.account(0, 100), 0);
        return x;
    }

    private static int order(SecureLines x, String patterns) {
        Own.feed(x, Own.text(patterns));
        return x.order(0, 0);
    }

    private static int zone(SecureLines x, String name, long secret) {
        Own.feed(x, Own.text(name));
        return x.zone(secret);
    }

    /** ORDER 0 of these PATTERNS is READY. */
    private static SecureLines ready(String patterns) {
        SecureLines x = with();
        Check.due("order", order(x, patterns), 0);
        makeReady(x, 0, patterns);
        return x;
    }

    private static void makeReady(SecureLines x, int order, String patterns) {
        String[] names = patterns.split(",");
        for (int k = 0; k < names.length; k++) {
            zone(x, names[k].replace("*.", ""), Own.derived(0, 100, 'z', x.ordered(0, order, 10 + k)));
            Check.due("challenge", x.challenge(0, order, k), 1);
        }
        Check.due("READY", x.ordered(0, order, 0), 1);
    }

    // ---- 52 office

    /** "BAD: certificate, KEY, scheme; NO: no OFFICE, or the KEY's POINT is another one; FULL: 4". */
    static void promise52_refusals() {
        SecureLines x = new SecureLines();
        Own.hold(x, officePaper());
        Own.hold(x, new Cert("b", "b", KEY).by(9));
        int[] bad = {2, -1, 30, Integer.MIN_VALUE, Integer.MAX_VALUE};
        for (int c : bad) {
            Check.due("certificate " + c, x.office(c, KEY, 1), -1);
        }
        int[] keys = {0, -1, Own.Q, Own.P, Integer.MIN_VALUE, Integer.MAX_VALUE};
        for (int key : keys) {
            Check.due("key " + key, x.office(0, key, 1), -1);
            Check.due("key " + key + " ahead of NO", x.office(1, key, 1), -1);
        }
        int[] schemes = {0, 3, -1, Integer.MIN_VALUE, Integer.MAX_VALUE};
        for (int scheme : schemes) {
            Check.due("scheme " + scheme, x.office(0, KEY, scheme), -1);
            Check.due("scheme " + scheme + " ahead of NO", x.office(1, KEY, scheme), -1);
        }
        Check.due("no OFFICE", x.office(1, KEY, 1), -2);
        Check.due("another KEY", x.office(0, KEY + 1, 1), -2);
        for (int i = 0; i < 4; i++) {
            Check.due("office", x.office(0, KEY, 1 + (i & 1)), i);
        }
        Check.due("the fifth", x.office(0, KEY, 1), -3);
        Check.due("NO ahead of FULL", x.office(1, KEY, 1), -2);
        Check.due("NO ahead of FULL", x.office(0, KEY - 1, 1), -2);
        Check.due("BAD ahead of FULL", x.office(0, KEY, 0), -1);
        Check.due("the last is there", x.account(3, 1), 0);
        Check.due("no fifth is", x.account(4, 1), -1);
    }

    // ---- 53 account

    /** "ACCOUNTS (8)"; "BAD, FULL": each office has its own. */
    static void promise53_eight() {
        SecureLines x = new SecureLines();
        Own.hold(x, officePaper());
        x.office(0, KEY, 1);
        x.office(0, KEY, 2);
        int[] bad = {-1, 2, 4, Integer.MIN_VALUE, Integer.MAX_VALUE};
        for (int o : bad) {
            Check.due("office " + o, x.account(o, 1), -1);
        }
        for (int i = 0; i < 8; i++) {
            Check.due("account", x.account(0, 7), i);
        }
        Check.due("the ninth", x.account(0, 7), -3);
        Check.due("another office", x.account(1, Long.MIN_VALUE), 0);
        x.feed(1, 'a');
        Check.due("the last is there", x.order(0, 7), 0);
        x.feed(1, 'a');
        Check.due("no ninth is", x.order(0, 8), -1);
    }

    // ---- 54 order

    /** "BAD: office, account": THE TAPE stays. */
    static void promise54_officeAndAccount() {
        SecureLines x = with();
        x.feed(1, 'a');
        for (int odd : NONE_SUCH) {
            Check.due("office " + odd, x.order(odd, 0), -1);
            Check.due("account " + odd, x.order(0, odd), -1);
        }
        Check.due("THE TAPE stays", x.cut(1), 0);
        x.feed(1, '!');
        Check.due("BAD ahead of NO", x.order(0, 1), -1);
        x.cut(1);
        Check.due("order", x.order(0, 0), 0);
        Check.due("it took THE TAPE", x.cut(0), 0);
    }

    /** "NO: not 1 to 3 PATTERNS (nothing is none), or one twice": THE TAPE stays. */
    static void promise54_oneToThreePatterns() {
        String[] good = {"a", "a,b", "a,b,c", "*.a.b", "*.a.b,a.b,b", FORTY, "*." + FORTY, "a.b,*.a.b", "-,--,---"};
        String[] none = {"", ",", ",,", "a,", ",a", "a,,b", "a,b,", "a,b,c,", "a,b,c,d", "a,a", "a,b,a", "a,b,b", "*.a.b,*.a.b", "*.a", "*",
            "*.", "a b", "A", "a.", ".a", "a..b", "*.*.a.b", "a" + FORTY, "*.a" + FORTY, "a;b", "a,b,c,!", "a,b,*"};
        for (String patterns : good) {
            SecureLines x = with();
            Check.due("order " + patterns, order(x, patterns), 0);
            Check.due("it took THE TAPE", x.cut(0), 0);
            Check.due("how many", x.ordered(0, 0, 2), patterns.split(",").length);
        }
        SecureLines x = with();
        for (String patterns : none) {
            Check.due("order " + patterns, order(x, patterns), -2);
            Check.due("THE TAPE stays", x.cut(0), patterns.length());
        }
        Check.due("none was made", x.ordered(0, 0, 0), -1);
    }

    /** The greatest ORDER: three PATTERNS of 42 bytes; and one that has another sign anywhere. */
    static void promise54_theGreatest() {
        String patterns = "*." + FORTY + ",*.b" + FORTY.substring(1) + ",*.c" + FORTY.substring(1);
        Check.due("of " + patterns.length(), order(with(), patterns), 0);
        SecureLines x = with();
        for (int i = 0; i < patterns.length(); i++) {
            String wrong = patterns.substring(0, i) + "!" + patterns.substring(i + 1);
            Check.due("another sign at " + i, order(x, wrong), -2);
            x.cut(0);
        }
        Own.feed(x, Own.rowOf(800, 'a'));
        Check.due("800 bytes", x.order(0, 0), -2);
        x.cut(0);
        Own.feed(x, Own.rowOf(800, ','));
        Check.due("800 commas", x.order(0, 0), -2);
        x.cut(0);
        Own.feed(x, Own.rowOf(1, 0));
        Check.due("a byte 0", x.order(0, 0), -2);
    }

    /** "ORDERS (12)"; "FULL": THE TAPE stays; NO and BAD are ahead of it. */
    static void promise54_twelve() {
        SecureLines x = with();
        x.office(0, KEY, 2);
        x.account(1, 100);
        for (int i = 0; i < 12; i++) {
            Check.due("order", order(x, "a"), i);
        }
        Check.due("the 13th", order(x, "b"), -3);
        Check.due("NO ahead of FULL", append(x, ",b"), -2);
        Check.due("BAD ahead of FULL", x.order(0, 1), -1);
        Check.due("THE TAPE stays", x.cut(1), 2);
        Check.due("another office", x.order(1, 0), 0);
        Check.due("the last is there", x.ordered(0, 11, 10), 12);
        Check.due("no 13th is", x.ordered(0, 12, 0), -1);
    }

    private static int append(SecureLines x, String signs) {
        Own.feed(x, Own.text(signs));
        return x.order(0, 0);
    }

    // ---- 55 ordered

    /** "BAD": office, order, what; 10 + k and 20 + k for PATTERNS that are there alone. */
    static void promise55_refusals() {
        for (int n = 1; n <= 3; n++) {
            SecureLines x = with();
            order(x, "a,b,c".substring(0, 2 * n - 1));
            for (int odd : NONE_SUCH) {
                Check.due("office " + odd, x.ordered(odd, 0, 0), -1);
                Check.due("order " + odd, x.ordered(0, odd, 0), -1);
            }
            for (int what = -5; what <= 45; what++) {
                int k = what % 10;
                boolean pattern = what >= 10 && what < 30 && k < n;
                int due = what == 0 || what == 1 ? 0 : what == 2 ? n : what == 3 ? -4 : !pattern ? -1 : what < 20 ? 1 + k : 0;
                Check.due("ordered(0, 0, " + what + ") of " + n, x.ordered(0, 0, what), due);
            }
            int[] whats = {100, 110, 120, Integer.MIN_VALUE, Integer.MAX_VALUE};
            for (int what : whats) {
                Check.due("what " + what, x.ordered(0, 0, what), -1);
            }
        }
    }

    /** "a TOKEN (a number of the office, from 1 on)": refused ORDERS take none; each office counts its own. */
    static void promise55_tokens() {
        SecureLines x = with();
        x.office(0, KEY, 2);
        x.account(1, 5);
        order(x, "a,a");
        x.cut(0);
        order(x, "a,b,c");
        order(x, "");
        order(x, "a");
        order(x, "a,b");
        int[][] due = {{1, 2, 3}, {4}, {5, 6}};
        for (int i = 0; i < 3; i++) {
            for (int k = 0; k < due[i].length; k++) {
                Check.due("TOKEN", x.ordered(0, i, 10 + k), due[i][k]);
            }
        }
        x.feed(1, 'a');
        x.order(1, 0);
        Check.due("another office", x.ordered(1, 0, 10), 1);
    }

    // ---- 56 zone

    /** "NO: no NAME; FULL (it is not there)": 16 NAMES; THE TAPE stays. */
    static void promise56_sixteen() {
        SecureLines x = with();
        String[] none = {"", "a.", ".", "*.a.b", "A", "a,b", "a" + FORTY};
        for (String name : none) {
            Check.due("NAME " + name, zone(x, name, 5), -2);
            Check.due("THE TAPE stays", x.cut(0), name.length());
        }
        for (int i = 1; i <= 16; i++) {
            Check.due("zone", zone(x, i == 16 ? FORTY : "n" + i, i), i);
            Check.due("it took THE TAPE", x.cut(0), 0);
            Check.due("the first again", zone(x, i == 1 ? "n1" : "n" + i / 2, 7), i);
        }
        Check.due("the 17th", zone(x, "n17", 5), -3);
        Check.due("THE TAPE stays", x.cut(0), 3);
        Check.due("one that is there", zone(x, "n15", 5), 16);
        Check.due("the last", zone(x, FORTY, 5), 16);
        Check.due("NO ahead of FULL", zone(x, "n17.", 5), -2);
    }

    /** "has a SECRET from now on (another one, if it is there)"; a refused one lets it stay. */
    static void promise56_anotherSecret() {
        SecureLines x = with();
        order(x, "a");
        order(x, "a");
        order(x, "a");
        for (int i = 0; i < 15; i++) {
            zone(x, "n" + i, 1);
        }
        zone(x, "a", Own.derived(0, 100, 'z', 1));
        Check.due("FULL", zone(x, "b", 1), -3);
        x.cut(0);
        Check.due("the SECRET stays", x.challenge(0, 0, 0), 1);
        zone(x, "a", Own.derived(0, 100, 'z', 2));
        Check.due("another one", x.challenge(0, 1, 0), 1);
        Check.due("not that of before", x.challenge(0, 2, 0), 2);
    }

    // ---- 57 challenge

    /** "BAD": office, order, k. */
    static void promise57_refusals() {
        for (int n = 1; n <= 3; n++) {
            SecureLines x = with();
            order(x, "a,b,c".substring(0, 2 * n - 1));
            for (int odd : NONE_SUCH) {
                Check.due("office " + odd, x.challenge(odd, 0, 0), -1);
                Check.due("order " + odd, x.challenge(0, odd, 0), -1);
            }
            int[] ks = {-1, n, 3, 4, Integer.MIN_VALUE, Integer.MAX_VALUE};
            for (int k : ks) {
                Check.due("k " + k + " of " + n, x.challenge(0, 0, k), -1);
            }
            Check.due("the last", x.challenge(0, 0, n - 1), 2);
            Check.due("BAD ahead of NO", x.challenge(0, 0, n), -1);
        }
    }

    /** "NO: the ORDER is not PENDING, or its state is not 0". */
    static void promise57_notPendingOrNotOpen() {
        SecureLines x = with();
        order(x, "a,b,c");
        zone(x, "a", Own.derived(0, 100, 'z', 1));
        Check.due("right", x.challenge(0, 0, 0), 1);
        Check.due("its state is not 0", x.challenge(0, 0, 0), -2);
        Check.due("still PENDING", x.ordered(0, 0, 0), 0);
        Check.due("wrong", x.challenge(0, 0, 1), 2);
        Check.due("INVALID", x.ordered(0, 0, 0), 3);
        Check.due("not PENDING, its state is 0", x.challenge(0, 0, 2), -2);
        Check.due("it stays 0", x.ordered(0, 0, 22), 0);
        Check.due("the right one", x.challenge(0, 0, 0), -2);
        SecureLines y = ready("a,b");
        Check.due("READY", y.challenge(0, 0, 1), -2);
        y.issue(0, 0, POINT, 5);
        Check.due("VALID", y.challenge(0, 0, 1), -2);
        Check.due("VALID stays", y.ordered(0, 0, 0), 2);
    }

    /** "1 READY (all are right) .. 3 INVALID (one is wrong)": of 1 to 3, the last decides, in any order. */
    static void promise57_allOrOne() {
        int[][] rows = {{0, 1, 2}, {0, 2, 1}, {1, 0, 2}, {1, 2, 0}, {2, 0, 1}, {2, 1, 0}};
        for (int[] row : rows) {
            for (int wrong = 0; wrong <= 3; wrong++) {
                SecureLines x = with();
                order(x, "a,b,c");
                for (int k = 0; k < 3; k++) {
                    zone(x, "abc".substring(k, k + 1), Own.derived(0, 100, 'z', 1 + k) + (k == wrong ? 1 : 0));
                }
                int state = 0;
                for (int i = 0; i < 3; i++) {
                    int due = state != 0 ? -2 : row[i] == wrong ? 2 : 1;
                    Check.due("challenge", x.challenge(0, 0, row[i]), due);
                    state = due == 2 ? 3 : due == 1 && i == 2 ? 1 : state;
                    Check.due("state", x.ordered(0, 0, 0), state);
                    Check.due("its own state", x.ordered(0, 0, 20 + row[i]), due == -2 ? 0 : due);
                }
            }
        }
    }

    /** "when THE ZONE has for it (without *.) the SECRET": of its ACCOUNT, its TOKEN, its NAME, that is there. */
    static void promise57_whenItIsMet() {
        SecureLines x = with();
        x.account(0, 101);
        String[] patterns = {"a.b", "*.a.b", "c.d", "*.c.d", "e", "f", "g"};
        for (String pattern : patterns) {
            order(x, pattern);
        }
        zone(x, "a.b", Own.derived(0, 100, 'z', 1));
        Check.due("its NAME", x.challenge(0, 0, 0), 1);
        zone(x, "a.b", Own.derived(0, 100, 'z', 2));
        Check.due("without *.", x.challenge(0, 1, 0), 1);
        zone(x, "c.d", Own.derived(0, 101, 'z', 3));
        Check.due("another ACCOUNT's", x.challenge(0, 2, 0), 2);
        zone(x, "c.d", Own.derived(0, 100, 'z', 3));
        Check.due("another TOKEN's", x.challenge(0, 3, 0), 2);
        Check.due("it is not there", x.challenge(0, 4, 0), 2);
        zone(x, "f.f", Own.derived(0, 100, 'z', 6));
        Check.due("a NAME under it", x.challenge(0, 5, 0), 2);
        zone(x, "g", Own.derived(0, 100, 'y', 7));
        Check.due("another letter", x.challenge(0, 6, 0), 2);
    }

    /** THE ZONE is empty, or has 16 NAMES, and not this one: it is not met. */
    static void promise57_theZoneIsEmptyOrFull() {
        for (int n = 0; n <= 16; n++) {
            SecureLines x = with();
            order(x, "a,b");
            for (int i = 0; i < n; i++) {
                zone(x, "n" + i, i == 0 ? 0 : Own.derived(0, 100, 'z', 1));
            }
            Check.due("not among " + n, x.challenge(0, 0, 0), 2);
            SecureLines y = with();
            order(y, "a,b");
            for (int i = 0; i < n; i++) {
                zone(y, i == n - 1 ? "b" : "n" + i, Own.derived(0, 100, 'z', 2));
            }
            Check.due("the last of " + n, y.challenge(0, 0, 1), n > 0 ? 1 : 2);
        }
    }

    // ---- 58 issue

    /** "A READY ORDER, a POINT (2 .. p - 2 of SCHEMES), so many minutes (1 .. 1000000)"; "BAD". */
    static void promise58_refusals() {
        SecureLines x = ready("a");
        for (int odd : NONE_SUCH) {
            Check.due("office " + odd, x.issue(odd, 0, POINT, 5), -1);
            Check.due("order " + odd, x.issue(0, odd, POINT, 5), -1);
        }
        int[] points = {0, 1, -1, Own.P - 1, Own.P, Integer.MIN_VALUE, Integer.MAX_VALUE};
        for (int y : points) {
            Check.due("point " + y, x.issue(0, 0, y, 5), -1);
        }
        for (int minutes : NO_MINUTES) {
            Check.due("minutes " + minutes, x.issue(0, 0, POINT, minutes), -1);
        }
        Check.due("still READY", x.ordered(0, 0, 0), 1);
        Check.due("none ISSUED", x.ordered(0, 0, 3), -4);
        Check.due("none held", x.field(1, 0), -1);
        int[][] good = {{2, 1}, {3, 1000000}, {Own.P - 2, 999999}};
        for (int[] call : good) {
            SecureLines y = ready("a");
            Check.due("issue", y.issue(0, 0, call[0], call[1]), 1);
            Check.due("POINT", y.field(1, 4), call[0]);
            Check.due("TO", y.field(1, 2), call[1]);
            Check.due("VALID", y.ordered(0, 0, 0), 2);
            Check.due("ISSUED", y.ordered(0, 0, 3), 1);
        }
    }

    /** "NO: not READY": PENDING, VALID, INVALID; BAD is ahead of it. */
    static void promise58_notReady() {
        SecureLines x = ready("a");
        order(x, "b");
        order(x, "c");
        x.challenge(0, 2, 0);
        Check.due("PENDING", x.issue(0, 1, POINT, 5), -2);
        Check.due("INVALID", x.issue(0, 2, POINT, 5), -2);
        Check.due("READY", x.issue(0, 0, POINT, 5), 1);
        Check.due("VALID", x.issue(0, 0, POINT, 5), -2);
        Check.due("BAD ahead of NO", x.issue(0, 0, 1, 5), -1);
        Check.due("BAD ahead of NO", x.issue(0, 1, POINT, 0), -1);
        Check.due("states stay", x.ordered(0, 0, 0) * 100 + x.ordered(0, 1, 0) * 10 + x.ordered(0, 2, 0), 203);
        Check.due("no SERIAL was given by that", x.revoke(0, 2), -1);
    }

    /** "FULL: 30 are held": at 29 it is not; NO and BAD are ahead of it; nothing changes. */
    static void promise58_thirtyAreHeld() {
        for (int held = 29; held <= 30; held++) {
            SecureLines x = ready("a");
            order(x, "b");
            for (int i = 1; i < held; i++) {
                Own.hold(x, new Cert("n" + i, "n", 5).by(5));
            }
            Check.due("NO ahead of FULL", x.issue(0, 1, POINT, 9), -2);
            Check.due("BAD ahead of FULL", x.issue(0, 0, POINT, 0), -1);
            Check.due("issue", x.issue(0, 0, POINT, 9), held == 29 ? 29 : -3);
            Check.due("its state", x.ordered(0, 0, 0), held == 29 ? 2 : 1);
            Check.due("ISSUED", x.ordered(0, 0, 3), held == 29 ? 29 : -4);
            Check.due("its SERIAL", x.revoke(0, 1), held == 29 ? 1 : -1);
        }
    }

    /** "(of the one with the same bytes, if there is one)". */
    static void promise58_theSameBytes() {
        SecureLines x = ready("d");
        byte[] due = new Cert("d", "of.fice", 55).serial(1).times(0, 9).uses(3).names("d").by(KEY);
        Check.due("held", Own.hold(x, due), 1);
        Check.due("issue", x.issue(0, 0, POINT, 9), 1);
        Check.due("ISSUED", x.ordered(0, 0, 3), 1);
        Check.due("no more is held", x.field(2, 0), -1);
        // another office of the same CERTIFICATE and SCHEME gives its own SERIALS from 1 on
        SecureLines y = ready("d");
        y.office(0, KEY, 1);
        y.account(1, 100);
        Own.feed(y, Own.text("d"));
        y.order(1, 0);
        Check.due("challenge", y.challenge(1, 0, 0), 1);
        Check.due("by one", y.issue(0, 0, POINT, 9), 1);
        Check.due("by the other one", y.issue(1, 0, POINT, 9), 1);
        Check.due("both gave it", y.revoke(0, 1) + y.revoke(1, 1), 2);
    }

    /** "SERIAL the office's next one (from 1 on) .. SUBJECT the ORDER's first PATTERN without *., FROM TIME, TO so many minutes later". */
    static void promise58_whatIsIssued() {
        for (int time = 0; time <= 2000000; time += 1000000) {
            SecureLines x = with();
            x.tick(time / 2);
            x.tick(time / 2);
            String[] orders = {"*." + FORTY + ",*.b" + FORTY.substring(1) + ",*.c" + FORTY.substring(1), "a", "*.x.y,x.y"};
            for (int i = 0; i < 3; i++) {
                order(x, orders[i]);
                makeReady(x, i, orders[i]);
                int minutes = i == 0 ? 1000000 : i;
                Check.due("issue", x.issue(0, i, POINT, minutes), 1 + i);
                String[] names = orders[i].split(",");
                byte[] due = new Cert(names[0].replace("*.", ""), "of.fice", 55).serial(1 + i).times(time, time + minutes).uses(3)
                    .names(names).by(KEY);
                Check.due("its size", x.text(1 + i, 11, 0), due.length);
                Check.out("its bytes", x, due);
            }
        }
    }

    // ---- 59 revoke

    /** "BAD: none such; NO: it is; FULL": SERIALS that the office gave. */
    static void promise59_refusals() {
        SecureLines x = with();
        Check.due("none was given", x.revoke(0, 1), -1);
        Check.due("SERIAL 0", x.revoke(0, 0), -1);
        for (int i = 0; i < 12; i++) {
            order(x, "a");
            makeReady(x, i, "a");
            x.issue(0, i, POINT, 9);
            Check.due("the next one was not given", x.revoke(0, i + 2), -1);
        }
        for (int odd : NONE_SUCH) {
            Check.due("office " + odd, x.revoke(odd, 1), -1);
        }
        int[] bad = {0, -1, 13, Integer.MIN_VALUE, Integer.MAX_VALUE};
        for (int serial : bad) {
            Check.due("SERIAL " + serial, x.revoke(0, serial), -1);
        }
        int[] row = {12, 1, 7, 6, 8, 2, 11, 3, 10, 4, 9, 5};
        for (int i = 0; i < 12; i++) {
            Check.due("revoke", x.revoke(0, row[i]), i + 1);
            Check.due("it is", x.revoke(0, row[i]), -2);
            Check.due("the first is", x.revoke(0, 12), -2);
        }
        int[] all = {1, 2, 3, 4, 5, 6, 7, 8, 9, 10, 11, 12};
        Check.due("publish", x.publish(0, 9), 0);
        for (int serial : all) {
            Check.due("rising, SERIAL " + serial, x.status(serial, 0, 0), 1);
        }
    }

    // ---- 60 publish

    /** "BAD, FULL": office, minutes (1 .. 1000000); 12 LISTS are held. */
    static void promise60_refusals() {
        SecureLines x = ready("a");
        x.issue(0, 0, POINT, 1000000);
        for (int odd : NONE_SUCH) {
            Check.due("office " + odd, x.publish(odd, 5), -1);
        }
        for (int minutes : NO_MINUTES) {
            Check.due("minutes " + minutes, x.publish(0, minutes), -1);
        }
        Check.due("of none", x.publish(0, 1), 0);
        Check.due("at its TO", x.status(1, 0, 1), 0);
        Check.due("behind it", x.status(1, 0, 2), 2);
        Check.due("the most", x.publish(0, 1000000), 1);
        Check.due("at its TO", x.status(1, 0, 1000000), 0);
        Check.due("behind it", x.status(1, 0, 1000001), 2);
        for (int i = 2; i < 12; i++) {
            Check.due("publish", x.publish(0, 5), i);
        }
        Check.due("the 13th", x.publish(0, 5), -3);
        Check.due("BAD ahead of FULL", x.publish(0, 0), -1);
    }

    /** "a LIST by it has its number (from 1 on)": a refused one takes none. */
    static void promise60_numbers() {
        SecureLines x = ready("a");
        x.issue(0, 0, POINT, 9);
        x.publish(0, 0);
        x.publish(1, 5);
        Own.feed(x, Cert.list("of.fice", 1, 0, 9, 1, KEY, 1));
        x.list();
        Check.due("a LIST of number 1", x.status(1, 0, 0), 1);
        x.publish(0, 5);
        Check.due("its first is 1, and came last", x.status(1, 0, 0), 0);
        Own.feed(x, Cert.list("of.fice", 2, 0, 9, 1, KEY, 1));
        x.list();
        Check.due("its first is below 2", x.status(1, 0, 0), 1);
        x.publish(0, 5);
        Check.due("its second is 2", x.status(1, 0, 0), 0);
    }

    /** "its number (from 1 on)": also when the LIST is held as number 0. */
    static void promise60_heldAsNumber0() {
        SecureLines x = ready("a");
        x.issue(0, 0, POINT, 9);
        Check.due("the first", x.publish(0, 5), 0);
        Own.feed(x, Cert.list("of.fice", 2, 0, 9, 1, KEY, 1));
        x.list();
        Check.due("a LIST of number 2", x.status(1, 0, 0), 1);
        Check.due("the second", x.publish(0, 5), 2);
        Check.due("it has number 2, and came last", x.status(1, 0, 0), 0);
    }

    // ---- 61 respond

    /** "BAD, FULL": office, a SERIAL that it gave, minutes; 12 ANSWERS are held. */
    static void promise61_refusals() {
        SecureLines x = ready("a");
        Check.due("none was given", x.respond(0, 1, 5), -1);
        x.issue(0, 0, POINT, 1000000);
        for (int odd : NONE_SUCH) {
            Check.due("office " + odd, x.respond(odd, 1, 5), -1);
        }
        int[] bad = {0, -1, 2, Integer.MIN_VALUE, Integer.MAX_VALUE};
        for (int serial : bad) {
            Check.due("SERIAL " + serial, x.respond(0, serial, 5), -1);
        }
        for (int minutes : NO_MINUTES) {
            Check.due("minutes " + minutes, x.respond(0, 1, minutes), -1);
        }
        Check.due("the least", x.respond(0, 1, 1), 0);
        Check.due("at its TO", x.status(1, 0, 1), 0);
        Check.due("behind it", x.status(1, 0, 2), 2);
        x.revoke(0, 1);
        Check.due("the most", x.respond(0, 1, 1000000), 1);
        Check.due("at its TO", x.status(1, 0, 1000000), 1);
        Check.due("behind it", x.status(1, 0, 1000001), 2);
        for (int i = 2; i < 12; i++) {
            Check.due("respond", x.respond(0, 1, 5), i);
        }
        Check.due("the 13th", x.respond(0, 1, 5), -3);
        Check.due("BAD ahead of FULL", x.respond(0, 2, 5), -1);
        Check.due("LISTS have their own room", x.publish(0, 5), 0);
    }

    /** What is told of it: its state is that of when it was asked for. */
    static void promise61_whatIsHeld() {
        SecureLines x = ready("a");
        x.issue(0, 0, POINT, 1000000);
        x.tick(7);
        x.respond(0, 1, 5);
        x.revoke(0, 1);
        Check.due("not REVOKED then", x.status(1, 0, 7), 0);
        Check.due("ahead of its FROM", x.status(1, 0, 6), 2);
        // as a STAPLE its bytes are seen
        x.end(1);
        x.row(1);
        Check.due("identity", x.identity(0, 55), 1);
        Peer peer = new Peer(x, x.connection(-1, 0), 0);
        peer.send(1, peer.helloBody(5, Peer.usualFields(1, 9), Peer.none()));
        peer.takeAnswer(9, 0);
        peer.expect(8);
        byte[] due = Cert.answer("of.fice", 1, 0, 7, 12, 1, KEY);
        byte[] chain = peer.expect(11);
        Check.that("its bytes", Arrays.equals(Own.part(chain, chain.length - due.length, chain.length), due));
    }
}
