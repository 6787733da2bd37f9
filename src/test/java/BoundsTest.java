import java.io.IOException;

/** Every sentence of the document that names a boundary case, each a test of its own; see Bounds. */
public final class BoundsTest {
    public static void main(String[] args) throws IOException {
        Bounds b = new Bounds();
        new BoundsOfText(b).run();
        new BoundsOfNow(b).run();
        new BoundsOfYears(b).run();
        new BoundsOfCalls(b).run();
        new BoundsOfEchoes(b).run();
        new BoundsOfNets(b).run();
        new BoundsOfChase(b).run();
        new BoundsOfDroughts(b).run();
        new BoundsOfActs(b).run();
        new BoundsOfTold(b).run();
        b.finish("BoundsTest");
    }
}
