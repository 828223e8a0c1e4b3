/** Promises 25 and 26: isles that lie on each other. */
public final class TideTest {
    private static final Check CHECK = new Check("TideTest");

    public static void main(String[] args) {
        BarterIsles isles = Check.told("name abcdefghi 10 5;name bcdefghij 11 5;name z 18 5;name y 20 5;name x 10 6;name w 19 5;");
        // 10..18, 11..19, 18, 20, 19 at y 5.
        CHECK.is("tide 0", 4, isles.tide(0));
        CHECK.is("tide 1", 1, isles.tide(1));
        CHECK.is("tide 3", 1, isles.tide(3));
        CHECK.is("tide 4", 0, isles.tide(4));
        CHECK.is("lies", 3, isles.lies(0, 1));
        CHECK.is("lies", 3, isles.lies(1, 0));
        CHECK.is("lies", 0, isles.lies(0, 2));
        CHECK.is("lies", 0, isles.lies(1, 5));
        CHECK.is("side by side", -1, isles.lies(0, 5));
        CHECK.is("side by side", -1, isles.lies(1, 3));
        CHECK.is("another y", -1, isles.lies(0, 4));
        isles.swap(2, 4);
        CHECK.is("they move with their names", 0, isles.lies(0, 4));
        CHECK.is("they move with their names", -1, isles.lies(0, 2));
        BarterIsles same = Check.told("name abcdefghi 0 0;name bcdefghij 0 0;name klm 3 0;");
        CHECK.is("at one place", 4, same.lies(0, 1));
        CHECK.is("within", 1, same.lies(0, 2));
        CHECK.is("tide 4", 1, same.tide(4));
        CHECK.is("tide 9", 0, same.tide(9));
        CHECK.is("without isles", 0, new BarterIsles().tide(0));
        CHECK.illegal("tide 10", () -> isles.tide(10));
        CHECK.illegal("tide -1", () -> isles.tide(-1));
        CHECK.noSuch("lies 6", () -> isles.lies(6, 6));
        CHECK.noSuch("lies -1", () -> isles.lies(0, -1));
        CHECK.illegal("lies of one", () -> isles.lies(0, 0));
        CHECK.end();
    }
}
