public final class FirstTest {
    public static void main(String[] args) {
        Check check = new Check();
        check.due(1, "count(0)", new LuckLinks().count(0), 0);
        check.end("FirstTest");
    }
}
