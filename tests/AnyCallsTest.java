import java.util.Random;

/** Any calls with any numbers: none throws, none ends late, and the same calls give the same answers. */
public final class AnyCallsTest {
    private static final int[] EDGES = {0, 1, -1, 2, 3, 4, 5, 7, 8, 9, 10, 20, 64, 65, 128, 255, 256, 300, 400, 800, 8000,
        1000000, 2000000000, Integer.MAX_VALUE, Integer.MIN_VALUE, Own.P - 1, Own.Q};

    public static void main(String[] args) {
        long sum = 0;
        for (int seed = 0; seed < 1500; seed++) {
            long once = run(seed, 512);
            if (seed % 10 == 0) {
                Check.due("the same again", run(seed, 512), once);
            }
            sum += once;
        }
        Check.that("something is answered", sum != 0);
        Check.end("AnyCallsTest");
    }

    private static int number(Random random) {
        int way = random.nextInt(10);
        return way < 6 ? random.nextInt(4) : way < 9 ? EDGES[random.nextInt(EDGES.length)] : random.nextInt();
    }

    private static long run(int seed, int calls) {
        Random random = new Random(seed);
        SecureLines x = seed % 3 == 0 ? new SecureLines() : World.both();
        long sum = 0;
        for (int i = 0; i < calls; i++) {
            sum = sum * 31 + (random.nextInt(4) == 0 ? usual(x, random) : any(x, random));
        }
        return sum;
    }

    /** What leads on: lines are carried, bytes fed, papers made. */
    private static long usual(SecureLines x, Random random) {
        int c = random.nextInt(4);
        switch (random.nextInt(12)) {
            case 0:
            case 1:
                return x.bring(c, 0, 8000);
            case 2:
            case 3:
                return x.bring(c, 1, 8000);
            case 4:
                return x.connection(0, 1);
            case 5:
                return x.connection(random.nextInt(2) - 1, random.nextBoolean() ? 1 : -1);
            case 6:
                x.cut(0);
                Own.feed(x, new Cert("n" + random.nextInt(3), "n" + random.nextInt(3), 5).serial(1 + random.nextInt(4))
                    .office().by(5));
                return x.certificate();
            case 7:
                x.cut(0);
                Own.feed(x, Own.bytes(20 + random.nextInt(5), random.nextInt(2), random.nextInt(20), random.nextInt(26), 0,
                    random.nextInt(12), random.nextInt(10), 0, 0, 0, 0, 0, 0, 0, 0, 0, 0, 0, 0, 0));
                return x.give(c, random.nextInt(2));
            case 8:
                x.cut(0);
                Own.feed(x, Own.text("ab"));
                return x.shared(random.nextInt(2), random.nextInt(2), 5);
            case 9:
                x.cut(0);
                Own.feed(x, new byte[random.nextInt(300)]);
                return random.nextBoolean() ? x.say(c, random.nextInt(2)) : x.early(0);
            case 10:
                return x.alter(c, random.nextInt(2), random.nextInt(60), 1 + random.nextInt(255));
            default:
                return x.setting(random.nextInt(2), random.nextInt(8), random.nextInt(4));
        }
    }

    private static long any(SecureLines x, Random random) {
        int a = number(random);
        int b = number(random);
        int c = number(random);
        int d = number(random);
        long v = random.nextBoolean() ? number(random) : random.nextLong();
        int which = random.nextInt(67);
        return which < 23 ? first(x, which, a, b, c, d, v) : which < 50 ? second(x, which, a, b, c, d, v)
            : third(x, which, a, b, c, d, v);
    }

    private static long first(SecureLines x, int which, int a, int b, int c, int d, long v) {
        switch (which) {
            case 0: return x.feed(a, v);
            case 1: return x.cut(a);
            case 2: return x.out(a);
            case 3: return x.again();
            case 4: return x.tick(a);
            case 5: return x.digest(a);
            case 6: return x.keyed(a, v);
            case 7: return x.derived(a, v, b, v);
            case 8: return x.seal(a, v, v, b);
            case 9: return x.unseal(a, v, v, b);
            case 10: return x.point(a, b);
            case 11: return x.joint(a, b, c);
            case 12: return x.keyPoint(a);
            case 13: return x.sign(a, b);
            case 14: return x.fits(a, b, v);
            case 15: return x.node();
            case 16: return x.wrap(a, b);
            case 17: return x.certificate();
            case 18: return x.list();
            case 19: return x.answer();
            case 20: return x.field(a, b);
            case 21: return x.text(a, b, c);
            default: return x.row(a);
        }
    }

    private static long second(SecureLines x, int which, int a, int b, int c, int d, long v) {
        switch (which) {
            case 23: return x.judge(a, b, c);
            case 24: return x.build(a, b, c, d);
            case 25: return x.step(a);
            case 26: return x.status(a, b, c);
            case 27: return x.end(a);
            case 28: return x.offer(a, b, c);
            case 29: return x.setting(a, b, c);
            case 30: return x.random(a);
            case 31: return x.trust(a, b);
            case 32: return x.identity(a, b);
            case 33: return x.host(a);
            case 34: return x.shared(a, b, v);
            case 35: return x.forget(a, b);
            case 36: return x.ticket(a, b, c);
            case 37: return x.early(a);
            case 38: return x.connection(a, b);
            case 39: return x.give(a, b);
            case 40: return x.bring(a, b, c);
            case 41: return x.line(a, b, c);
            case 42: return x.alter(a, b, c, d);
            case 43: return x.say(a, b);
            case 44: return x.hear(a, b);
            case 45: return x.close(a, b);
            case 46: return x.renew(a, b, c);
            case 47: return x.told(a, b, c);
            case 48: return x.key(a, b, c);
            default: return x.export(a, b);
        }
    }

    private static long third(SecureLines x, int which, int a, int b, int c, int d, long v) {
        switch (which) {
            case 50: return x.office(a, b, c);
            case 51: return x.account(a, v);
            case 52: return x.order(a, b);
            case 53: return x.ordered(a, b, c);
            case 54: return x.zone(v);
            case 55: return x.challenge(a, b, c);
            case 56: return x.issue(a, b, c, d);
            case 57: return x.revoke(a, b);
            case 58: return x.publish(a, b);
            case 59: return x.respond(a, b, c);
            case 60: return x.log();
            case 61: return x.add(a, v);
            case 62: return x.head(a, b);
            case 63: return x.inclusion(a, b, c);
            case 64: return x.consistency(a, b, c);
            case 65: return x.included(v, a, b, v);
            default: return x.consistent(a, b, v, v);
        }
    }
}
