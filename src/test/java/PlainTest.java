/** A first look: a new object is as at first. */
public final class PlainTest {
    public static void main(String[] args) {
        Check check = new Check();
        SownPaths x = new SownPaths();
        for (int what = 0; what <= 5; what++) {
            check.due("count(" + what + ")", x.count(what), 0);
        }
        check.due("count(6)", x.count(6), 1);
        check.end();
    }
}
