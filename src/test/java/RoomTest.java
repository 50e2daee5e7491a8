import com.sun.management.ThreadMXBean;
import java.lang.management.ManagementFactory;
import java.util.ArrayList;
import java.util.List;

/** All calls of a run live in one room: the dearest calls make next to no objects, and an object is small. */
public final class RoomTest {
    private static final int CALLS = 480;
    private static final ThreadMXBean THREADS = (ThreadMXBean) ManagementFactory.getThreadMXBean();
    private static long sink = 0;

    public static void main(String[] args) {
        makesNothing();
        isSmall();
        Due.end("RoomTest");
    }

    /** As much as a text can tell. */
    private static String fullest() {
        StringBuilder text = new StringBuilder();
        String[] kinds = {"clerk", "chief", "codist", "double", "unmoved", "clerk", "chief", "clerk"};
        for (int i = 0; i < 8; i++) {
            text.append(kinds[i]).append(' ').append(i % 2).append(' ').append(i / 2 % 2).append(' ').append(i % 4).append(';');
        }
        for (int i = 0; i < 8; i++) {
            text.append("line ").append(i).append(' ').append((i + 1) % 8).append(' ').append(1 + i % 3).append(';');
            text.append("line ").append(i).append(' ').append((i + 3) % 8).append(' ').append(4 - i % 3).append(';');
        }
        for (int i = 0; i < 6; i++) {
            text.append("secret ").append(i + 1).append(' ').append(i % 2).append(' ').append(i).append(';');
        }
        for (int i = 0; i < 8; i++) {
            text.append("grudge ").append(i).append(' ').append((i + 1) % 8).append(';');
        }
        text.append("tells day<30 and 0<(same+(loyal+(kin+(own+(worth-worth))))) or not not not 1");
        while (text.length() < 697) {
            text.append("+0");
        }
        return text.append(';').toString();
    }

    private static void use(WavingDesks x, int i) {
        sink += x.game(i & 1) + x.who(i % 6, i & 1) + x.silence(i % 6, i % 8) + x.years(i, 40, i % 3);
        sink += x.dearest() + x.word(i % 8) + x.more(i % 8, (i + 1) % 8) + x.exchange(i & 1) + x.waves(i % 20);
        sink += x.turn(i % 8) + x.move(i % 8) + x.plant(i % 6, i % 8, i % 60) + x.see(i % 6, i % 8, i % 90, true);
        x.burn(i % 8, (i & 8) == 0);
        x.cut(i % 16, (i & 16) == 0);
        sink += x.undo() + x.farthest() + x.known(i & 1, i % 9) + x.line(i % 16, 4) + x.agent(i % 8, 4);
        x.image();
        x.restore();
    }

    private static void makesNothing() {
        String text = fullest();
        WavingDesks x = Due.desks(text);
        Due.is("agents", x.count(0), 8);
        Due.is("lines", x.count(1), 16);
        use(x, 0);
        long id = Thread.currentThread().getId();
        long before = THREADS.getThreadAllocatedBytes(id);
        for (int i = 0; i < 19; i++) {
            use(x, i);
        }
        for (int i = 0; i < CALLS; i++) {
            sink += x.game(i & 1);
            sink += x.who(i % 6, i & 1);
            sink += x.silence(i % 6, i % 8);
            sink += x.years(i, 40, i % 3);
        }
        long made = THREADS.getThreadAllocatedBytes(id) - before;
        Due.is("what the calls made stays below 64 KiB (it was " + made + ")", made < 65536, true);
    }

    private static void isSmall() {
        List<WavingDesks> kept = new ArrayList<>(2000);
        kept.add(new WavingDesks());
        long id = Thread.currentThread().getId();
        long before = THREADS.getThreadAllocatedBytes(id);
        for (int i = 0; i < 1000; i++) {
            kept.add(new WavingDesks());
        }
        long each = (THREADS.getThreadAllocatedBytes(id) - before) / kept.size();
        Due.is("an object stays below 16 KiB (it was " + each + ")", each < 16384, true);
    }
}
