/** The smallest use of the class. */
public final class FirstTest {
    public static void main(String[] args) {
        Simplespan x = new Simplespan();
        Check.due("now", 0, () -> x.now());
        Check.due("startedAt", 0, () -> x.startedAt(0));
        Check.noSuch("startedAt", () -> x.startedAt(1));
        Check.due("addEvent", 1, () -> x.addEvent());
        Check.end();
    }
}
