import com.sun.management.ThreadMXBean;
import java.lang.management.ManagementFactory;

/** All calls of one run share one room: what a full book's life makes stays far below it. */
public final class RoomTests {
    private static final Trial trial = new Trial();
    private static final ThreadMXBean BEAN = (ThreadMXBean) ManagementFactory.getThreadMXBean();
    private static final String FACTS = "A {1@1=1}{1@1=2}{1@1=3}{1@1=4}{1@1=5}\n";

    public static void main(String[] args) {
        // Classes are loaded by a first life; its room is not the book's.
        life();
        long before = BEAN.getCurrentThreadAllocatedBytes();
        TestimonyBook book = life();
        long grown = BEAN.getCurrentThreadAllocatedBytes() - before;
        trial.due("a whole life takes less than 300,000 bytes (" + grown + ")", grown < 300000 ? 1 : 0, 1);
        before = BEAN.getCurrentThreadAllocatedBytes();
        int sum = asked(book);
        grown = BEAN.getCurrentThreadAllocatedBytes() - before;
        trial.due("what is asked makes nothing (" + grown + ")", grown < 1000 ? 1 : 0, 1);
        trial.due("it was asked", sum > 0 ? 1 : 0, 1);
        trial.finish();
    }

    private static TestimonyBook life() {
        TestimonyBook book = Trial.bookOf(Trial.times(FACTS, 30));
        for (int i = 0; i < 100; i++) {
            Trial.putRight(book, i % 30, "right");
        }
        for (int i = 0; i < 60; i++) {
            book.order(0, i % 30, i % 4);
        }
        for (int i = 0; i < 40; i++) {
            book.digest(1, 1, i);
        }
        book.read(0, 29, 3, -1);
        return book;
    }

    private static int asked(TestimonyBook book) {
        int sum = 0;
        for (int i = 0; i < 50; i++) {
            sum += book.quarrels(i - 1) + book.read(0, 29, 3, i - 1) + book.shown(i % 40, i - 1) + book.cited(1, 1);
            sum += book.stands(i, 0) + book.status(i % 30, 0, 1) + book.about(i % 30, 6) + book.fact(i, 4);
        }
        return sum;
    }
}
