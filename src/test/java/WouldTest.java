/** Promises 30 to 32: what would be. */
final class WouldTest {
    private static final String FOUR = "beam 20 most 77;support 0;support 5;support 11;support 20;hinge 7;hinge 15;load 3 at 9;";

    public static void main(String[] args) {
        promise30TryHinge();
        promise31BestHinge();
        promise32Strongest();
        Check.end();
    }

    private static void promise30TryHinge() {
        BeamLines beam = Texts.made(FOUR);
        Check.same("its own place", 0, beam.tryHinge(0, 7));
        Check.same("another hinge", -11, beam.tryHinge(0, 15));
        Check.same("a support", -11, beam.tryHinge(1, 11));
        Check.same("another place", 0, beam.tryHinge(1, 12));
        Check.same("beyond the other hinge", 0, beam.tryHinge(1, 3));
        Check.same("would not stand", -12, beam.tryHinge(0, 16));
        Check.same("would not stand on the other side", -12, Texts.made(
                "beam 12 most 50;support 2;support 4;support 6;hinge 5;").tryHinge(0, 8));
        Check.same("the least place", 0, beam.tryHinge(0, 1));
        Check.same("the greatest place", 0, beam.tryHinge(1, 19));
        Check.badArgument("place 0", () -> beam.tryHinge(0, 0));
        Check.badArgument("place 20", () -> beam.tryHinge(0, 20));
        Check.badArgument("place -1", () -> beam.tryHinge(0, -1));
        Check.noIndex("hinge 2", () -> beam.tryHinge(2, 3));
        Check.noIndex("hinge -1, the hinge first", () -> beam.tryHinge(-1, 0));
        Check.same("nothing moved", 7, beam.hinge(0));
        Check.same("nothing moved", 15, beam.hinge(1));
        Check.same("no change but load", 0, beam.undo());
    }

    private static void promise31BestHinge() {
        BeamLines beam = Texts.made("beam 12 most 50;support 0;support 4;support 12;hinge 6;axle 10 behind 0;");
        Check.same("between 20 and 120 by 7", 5, beam.bestHinge(0));
        Check.same("nothing moved", 6, beam.hinge(0));
        beam.moveHinge(0, 5);
        Check.same("its own place", 5, beam.bestHinge(0));
        beam.dropAxle(0);
        Check.same("the leftmost place without loads", 1, beam.bestHinge(0));
        BeamLines even = Texts.made("beam 12 most 50;support 0;support 6;support 12;hinge 9;axle 10 behind 0;");
        Check.same("the leftmost of two", 5, even.bestHinge(0));
        BeamLines fallen = Texts.made("beam 12 most 50;support 4;support 6;support 8;hinge 5;");
        Check.same("no place where it would not stand", 5, fallen.bestHinge(0));
        Check.noIndex("hinge 1", () -> beam.bestHinge(1));
        Check.noIndex("hinge -1", () -> beam.bestHinge(-1));
        Check.noIndex("no hinge at all", () -> new BeamLines().bestHinge(0));
    }

    private static void promise32Strongest() {
        BeamLines beam = new BeamLines();
        Check.same("by the moment", 40, beam.strongest());
        beam.setBearing(1, 30);
        Check.same("by the bearing", 30, beam.strongest());
        beam.addLoad(10, 5);
        Check.same("by the bearing with a load", 25, beam.strongest());
        beam.setBearing(1, -1);
        Check.same("by the moment with a load", 30, beam.strongest());
        beam.addAxle(999, 3);
        Check.same("the train is another one", 30, beam.strongest());
        beam.setMost(24);
        Check.same("not safe without the train", 0, beam.strongest());
        beam.setMost(25);
        Check.same("just safe without the train", 0, beam.strongest());
        beam.setMost(999999);
        Check.same("the greatest weight", 999, beam.strongest());
        beam.setMost(1);
        beam.dropLoad(0);
        Check.same("not even 1", 0, beam.strongest());
        BeamLines held = Texts.made("beam 10 most 100;support 2;support 8;load 10 at 5;");
        Check.same("by what a load holds down", 15, held.strongest());
        BeamLines beyond = Texts.made("beam 10 most 100;support 2;support 8;load 60 at 2;load 60 at 8;load 10 at 0;");
        Check.same("by a moment below 0 with a load", 40, beyond.strongest());
        Check.same("a support lifts", 0, Texts.made("beam 10 most 100;support 2;support 8;load 10 at 0;").strongest());
        Check.same("down at an end", 4, Texts.made("beam 10 most 9;support 2;support 8;load 99 at 2;load 99 at 8;").strongest());
    }
}
