import com.sun.management.ThreadMXBean;
import java.lang.management.ManagementFactory;

/** What a run makes is counted: an object is made with all its rows, and no call makes anything more. */
public final class RoomTest {
    private static final ThreadMXBean BEAN = (ThreadMXBean) ManagementFactory.getThreadMXBean();
    private static long answers = 0;

    private static long made() {
        return BEAN.getCurrentThreadAllocatedBytes();
    }

    public static void main(String[] args) {
        Checks.at("room");
        ThanksByPost[] all = {new ThanksByPost(), Cities.usual(), Cities.full(), Cities.last()};
        for (ThanksByPost x : all) everyCall(x);
        made();
        long own = -made() + made();
        for (int i = 0; i < all.length; i++) {
            long before = made();
            everyCall(all[i]);
            long bytes = made() - before - own;
            Checks.yes("object " + i + ": every call made " + bytes + " bytes", bytes <= 0);
        }
        long before = made();
        ThanksByPost x = new ThanksByPost();
        long bytes = made() - before - own;
        Checks.yes("an object is " + bytes + " bytes", bytes < 64000 && bytes > 0);
        answers += x.about(0);
        System.out.println("an object is " + bytes + " bytes, answers come to " + answers);
        Checks.end();
    }

    private static void everyCall(ThanksByPost x) {
        answers += x.image() + x.owner(5) + x.thing(5, 0, 1) + (x.room(50) ? 1 : 0);
        answers += x.steal(0) + x.day(3) + x.send(0) + (x.give(0, 1) ? 1 : 0) + x.day(60) + x.decades(77, 30);
        answers += x.end(0) + x.feed(0x6461793b, 0, 0, 0, 0) + x.end(3) + x.text() + x.fault(0) + x.fault(1);
        // dears (1); and day 3;
        answers += x.feed(0x64656172, 0x73202831, 0x293b6461, 0x7920333b, 0x20202020) + x.text();
        answers += x.about(5) + (x.by(0) ? 1 : 0) + x.played(0) + x.undo();
        answers += x.steal(0) + x.ofOwner(0, 2) + x.of(0, 3) + x.law(0, 3) + x.book(-1, 0) + x.book(0, 3);
        answers += x.foretold(60, 0, 0) + x.pence(60, 0) + x.plan(0, 9) + x.first();
        answers += x.fewest(0, 0, 3, -1) + x.fewest(0, 1, 3, 0) + x.worth(30) + x.whose(0) + x.twice();
        answers += x.since(0, 0, 50, true) + x.since(0, 0, 50, false) + x.bargain(99, 20, 3, true);
        answers += x.vote(50) + x.vote(40) + x.voted(false) + x.voted(true) + x.lying(0, false) + x.lying(1, true);
        answers += x.seen(50, 5, true) + x.rule() + x.odds(1, 3, true) + x.early() + x.back();
        for (int what = -1; what <= 12; what++) answers += x.about(what);
    }
}
