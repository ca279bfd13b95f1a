/** Promises 1 and 4 to 10: the cloth. */
final class ClothTest {
    public static void main(String[] args) {
        ChequeredCloth x = new ChequeredCloth();
        Check.due("worth()", x.worth(), 0);
        Check.due("lay(1000)", x.lay(1000), 0);
        Check.due("worth()", x.worth(), 1000);
        Check.close("ClothTest");
    }
}
