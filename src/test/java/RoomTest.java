import java.lang.management.ManagementFactory;
import java.util.function.Consumer;
import java.util.function.Supplier;

/** All calls of a run live in one room: a call uses the rows of the constructor again, only a TEXT makes something. */
public final class RoomTest {
    private static final Due due = new Due("RoomTest");
    /** A text takes four calls, and an object is good for 512. */
    private static final int CALLS = 100;
    private static final com.sun.management.ThreadMXBean THREADS =
            (com.sun.management.ThreadMXBean) ManagementFactory.getThreadMXBean();

    public static void main(String[] args) {
        if (!THREADS.isThreadAllocatedMemorySupported()) {
            System.out.println("RoomTest: this machine can't tell what is made");
            return;
        }
        places();
        party();
        rows();
        texts();
        due.end();
    }

    private static void places() {
        atMost(10000, "an object", States.NEW, x -> new RidgeClaps());
        nothing("place", States.RICH, x -> x.place(3, 50));
        nothing("told", States.RICH, x -> x.told(2, 3));
        nothing("as", States.RICH, x -> x.as(2, 1));
        nothing("turns", States.RICH, x -> x.turns(2, 1));
        nothing("set", States.RICH, x -> x.set(2, 1, 5));
        nothing("deal", States.RICH, x -> x.deal(24));
        nothing("seed", States.RICH, x -> x.seed(3));
        nothing("storm", States.RICH, x -> x.storm(0, 3));
        nothing("sky", States.RICH, x -> x.sky(60, 1));
        nothing("danger", States.RICH, x -> x.danger(2, 60));
    }

    private static void party() {
        nothing("come", States.RICH, x -> x.come(2));
        nothing("step", States.RICH, x -> x.step(2));
        nothing("run", States.UNTOLD, x -> x.run(60));
        nothing("tree", States.RICH, x -> x.tree(3, 60, 1));
        nothing("rule", States.RICH, x -> x.rule(3, 60, 1));
        nothing("hide", States.RICH, x -> x.hide(3, 60));
        nothing("safest", States.RICH, x -> x.safest(60));
        nothing("keep", States.RICH, x -> x.keep());
        nothing("back", States.RICH, x -> x.back());
        nothing("tell", States.RICH, x -> x.tell(1));
        nothing("check", States.RICH, x -> x.check(30));
        nothing("count", States.RICH, x -> x.count(10));
    }

    private static void rows() {
        nothing("claps, how far", States.RICH, x -> x.claps(1, 0));
        nothing("claps, comes", States.RICH, x -> x.claps(1, 1));
        nothing("claps, the differences", States.RICH, x -> x.claps(1, 3));
        nothing("hear", States.RICH, x -> x.hear(1));
        nothing("sheet", States.RICH, x -> x.sheet(3, 1, 24));
        nothing("mark", States.RICH, x -> x.mark(1, 1, 7));
        nothing("pour", States.RICH, x -> x.pour(1));
        nothing("reads", States.RICH, x -> x.reads(1));
        nothing("copy", States.RICH, x -> x.copy(1, 0, 1, 1, 5));
        nothing("lay a place", States.RICH, x -> x.lay(0, 1, 1));
        nothing("lay a sheet", States.RICH, x -> x.lay(0, 2, 1));
        nothing("ask", States.RICH, x -> x.ask(1, 1));
        nothing("item", States.RICH, x -> x.item(2, 1));
        nothing("rest", States.RICH, x -> x.rest(3, 4));
    }

    private static void texts() {
        nothing("feed and trim", States.UNTOLD, x -> {
            x.feed(1, 2, 3);
            x.trim(0);
        });
        nothing("a fault", States.UNTOLD, x -> {
            x.feed(1, 2, 3);
            x.text();
        });
        atMost(500, "texts that are told again and again", States.NEW, x -> {
            x.keep();
            x.feed(States.four("risk"), States.four(" 1+1"), States.four("+h+n"));
            x.text();
            x.back();
        });
        nothing("textTold", States.RICH, x -> x.textTold(3, 1));
        nothing("why", States.RICH, x -> x.why(1));
    }

    /** No object is smaller than 16 bytes: if each call made one, it would be more. */
    private static void nothing(String name, Supplier<RidgeClaps> made, Consumer<RidgeClaps> call) {
        atMost(15, name, made, call);
    }

    /** The first round is not counted: the machine loads what it needs in it. */
    private static void atMost(int bytesEach, String name, Supplier<RidgeClaps> made, Consumer<RidgeClaps> call) {
        bytesOf(made.get(), call);
        long bytes = bytesOf(made.get(), call);
        due.holds(CALLS + " times " + name + " made " + bytes + " bytes", bytes <= CALLS * (long) bytesEach);
    }

    private static long bytesOf(RidgeClaps x, Consumer<RidgeClaps> call) {
        long before = THREADS.getCurrentThreadAllocatedBytes();
        for (int i = 0; i < CALLS; i++) {
            call.accept(x);
        }
        return THREADS.getCurrentThreadAllocatedBytes() - before;
    }
}
