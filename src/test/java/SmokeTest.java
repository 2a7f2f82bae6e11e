public final class SmokeTest {
    public static void main(String[] args) {
        Check.due("restore", Check.STATE, () -> new AdventureWorld().restore());
        Check.end();
    }
}
