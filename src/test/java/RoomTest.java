import java.lang.management.ManagementFactory;

/** All calls of a run live in one room: calls make no objects, and a new object is small. */
public final class RoomTest {
    private static final com.sun.management.ThreadMXBean THREADS =
        (com.sun.management.ThreadMXBean) ManagementFactory.getThreadMXBean();
    private static long sum = 0;

    private RoomTest() {
    }

    public static void main(String[] args) {
        AfterEachVowel first = new AfterEachVowel();
        useAll(first);
        long before = used();
        AfterEachVowel x = new AfterEachVowel();
        long made = used() - before;
        Due.holds("a new object takes " + made + " bytes", made < 100_000);
        useAll(x);
        before = used();
        useAll(x);
        useAll(x);
        long more = used() - before;
        Due.holds("calls took " + more + " bytes", more < 2_000);
        Due.end("RoomTest");
    }

    private static long used() {
        return THREADS.getThreadAllocatedBytes(Thread.currentThread().getId());
    }

    private static void useAll(AfterEachVowel x) {
        for (int i = 0; i < 4; i++) {
            sum += x.sheet(i, i % 3, 40) + x.sheet(3, 0, 10) + x.cell(3, i, i) + x.learn(3, i);
            sum += x.rule(i + 1, i, i) + x.then(i) + x.told(i, i) + x.set(i, 0, i) + x.copy(3, 0, 3, 1, 4);
            sum += x.rules(3, 0, 0, 3) + x.taken(i, 0);
        }
        String text = "hard not 1<2;hides (long+2)*3;minds -1;";
        for (int i = 0; i < text.length(); i++) {
            sum += x.feed(text.charAt(i));
        }
        sum += x.text() + x.force(1) + x.image();
        for (int i = 0; i < 5; i++) {
            sum += x.said(0, i) + x.turned(0, 0, i) + x.of(0, i) + x.all(i) + x.leave(i) + x.order(i) + x.letter(0, i);
            sum += x.film(2, 0) + x.heard(2, i) + x.found(2, 0, 0, i) + x.alikeTexts() + x.drawn(i);
            sum += x.chance(i, 20, 0) + x.count(i);
        }
        sum += x.clear() + x.back();
    }
}
