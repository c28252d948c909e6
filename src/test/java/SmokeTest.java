/** Placeholder */
public final class SmokeTest {
    public static void main(String[] args) {
        Check.due("build()", Check.built(1, "()").kind(3), 1);
        Check.end();
    }
}
