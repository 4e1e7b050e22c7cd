import com.sun.management.ThreadMXBean;
import java.lang.management.ManagementFactory;

/** All calls of one run live in one room: 512 of the dearest calls make next to nothing, and none fails to end. */
public final class RoomTest {
    private static final long FIELD = 8;
    private static final ThreadMXBean THREADS = (ThreadMXBean) ManagementFactory.getThreadMXBean();
    private static long answers = 0;

    public static void main(String[] args) {
        making();
        for (int call = 0; call < 18; call++) {
            calling(call);
        }
        Due.due("some answers", answers != 0);
        Due.end();
    }

    private static long made() {
        return THREADS.getThreadAllocatedBytes(Thread.currentThread().getId());
    }

    private static void making() {
        LadderClub[] kept = new LadderClub[512];
        long before = made();
        for (int i = 0; i < kept.length; i++) {
            kept[i] = new LadderClub();
        }
        Due.due("512 objects: " + (made() - before), made() - before < 2_000_000 * FIELD);
        answers += kept[511].count(0);
    }

    private static LadderClub dearest() {
        LadderClub x = Clubs.names(6);
        x.image();
        for (int i = 0; i < 5; i++) {
            Clubs.club(x, "up 5;bold " + "c<99&".repeat(20) + "u>0");
        }
        for (int a = 0; a < 6; a++) {
            for (int b = 0; b < a; b++) {
                x.chance(a, b, 40 + (a * 7 + b * 5) % 23);
                x.past(a, b, a * b);
            }
            x.asker(a, a % 5, 30);
            x.row(a - 1);
        }
        for (int i = 0; i < 15; i++) {
            x.round(i % 5, 5);
        }
        return x;
    }

    /** On many objects by turns, as none is used for more than 512 calls. */
    private static void calling(int call) {
        LadderClub[] kept = new LadderClub[32];
        for (int i = 0; i < kept.length; i++) {
            kept[i] = dearest();
            answers += calls(kept[i], call);
        }
        long before = made();
        for (int i = 0; i < 512; i++) {
            answers += calls(kept[i % kept.length], call);
        }
        long bytes = made() - before;
        Due.due("512 of call " + call + ": " + bytes, bytes < 200_000 * FIELD);
    }

    private static long calls(LadderClub x, int call) {
        switch (call) {
            case 0: return x.share(0, 6, 2, 2, 0);
            case 1: return x.truly(0, 6, 0);
            case 2: return x.likely(0, 6, 0);
            case 3: return x.mean(0, 6, 2, 0);
            case 4: return x.stuck(0, 1);
            case 5: return x.ought(0, 6, 5);
            case 6: return x.judged(0, 0);
            case 7: return x.refuse(0, 6, 1, 0);
            case 8: return x.begin(0, 6, 3);
            case 9: return x.best(6);
            case 10: return x.sorts(0);
            case 11: return x.order(1);
            case 12: return x.image() + x.undo();
            case 13: return x.asker(3, 4, 3);
            case 14: return x.act(3, 2, 1);
            case 15: return reading(x);
            case 16: return x.image() + x.run(0, 99, 7) + x.undo();
            default: return x.far() + x.board(0, 1);
        }
    }

    /** A club of all 120 bytes, ahead of the image without one. */
    private static long reading(LadderClub x) {
        if (x.count(1) == 5) {
            x.undo();
        }
        return Clubs.club(x, "bold a<1" + "|a<1".repeat(28));
    }
}
