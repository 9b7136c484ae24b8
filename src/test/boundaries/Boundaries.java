/** All tests of boundaries, in the order of the promises. */
final class Boundaries {
    private Boundaries() {
    }

    /** Runs the one test of that name, or all if it is empty. */
    static Boundary run(String only) {
        Boundary b = new Boundary(only);
        new RefusalBoundaries(b).all();
        new HouseBoundaries(b).all();
        new TextBoundaries(b).all();
        new WhoBoundaries(b).all();
        new OpenBoundaries(b).all();
        new CardsBoundaries(b).all();
        new HostBoundaries(b).all();
        return b;
    }
}
