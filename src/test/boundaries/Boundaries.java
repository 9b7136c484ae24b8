/** All tests of boundaries, in the order of the promises. */
final class Boundaries {
    private Boundaries() {
    }

    static Boundary run() {
        Boundary b = new Boundary();
        new RefusalBoundaries(b).all();
        new HouseBoundaries(b).all();
        new TextBoundaries(b).all();
        new WhoBoundaries(b).all();
        new OpenBoundaries(b).all();
        new CardsBoundaries(b).all();
        new HostBoundaries(b).all();
        return b;
    }
}
