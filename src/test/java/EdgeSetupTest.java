/** Promises 5 to 11: the bounds of what is asked about a beam. */
final class EdgeSetupTest {
    private static final int[] FAR_OFF = {Integer.MIN_VALUE, -256, 256, 65536, Integer.MAX_VALUE};
    private static final String FULL = "beam 30 most 999999;support 26 bears 99999;support 28;support 29 bears 1;support 13;support 14;"
            + "hinge 27;hinge 15;hinge 16;" + "load 999 at 30;".repeat(7) + "load 1 at 0;" + "axle 999 behind 30;".repeat(5) + "axle 1 behind 0;";

    public static void main(String[] args) {
        promise5LeastNumbers();
        promise5GreatestNumbers();
        promise5LastHead();
        promise5AnyOtherWhat();
        promise6Unit();
        promise7SupportExists();
        promise7What();
        promise7Bearing();
        promise8HingeExists();
        promise9LoadExists();
        promise9What();
        promise10AxleExists();
        promise10What();
        promise11AtHinges();
        promise11PartsOfAllPlaces();
        promise11PlaceExists();
        Check.end();
    }

    private static BeamLines full() {
        return Texts.busy(FULL);
    }

    private static BeamLines bare() {
        return new BeamLines();
    }

    private static void numbers(BeamLines beam, int... due) {
        for (int what = 0; what < due.length; what++) {
            Check.same("count(" + what + ")", due[what], beam.count(what));
        }
    }

    private static void promise5LeastNumbers() {
        Check.under("promise 5, the least numbers");
        numbers(Texts.made("beam 2 most 1;support 0;support 2;"), 2, 2, 0, 0, 0, 1, 0, 0, 0);
        numbers(Texts.made("beam 2 most 1;support 0;support 2;load 1 at 0;axle 1 behind 0;"), 2, 2, 0, 1, 1, 1, 1, 1, 2);
    }

    private static void promise5GreatestNumbers() {
        Check.under("promise 5, the greatest numbers");
        numbers(full(), 30, 5, 3, 8, 6, 999999, 6994, 4996, 60);
    }

    private static void promise5LastHead() {
        Check.under("promise 5, the last head of the train");
        BeamLines beam = Texts.made("beam 10 most 9;support 0;support 10;");
        Check.same("without axles", 0, beam.count(8));
        beam.addAxle(1, 0);
        Check.same("an axle at the head", 10, beam.count(8));
        beam.addAxle(1, 30);
        Check.same("an axle far behind", 40, beam.count(8));
        beam.addAxle(1, 1);
        Check.same("the greatest number, not the latest", 40, beam.count(8));
        beam.dropAxle(1);
        Check.same("it goes", 11, beam.count(8));
    }

    private static void promise5AnyOtherWhat() {
        Check.under("promise 5, any other what");
        Same.badArgument("count(-1)", Texts::busy, beam -> beam.count(-1));
        Same.badArgument("count(9)", Texts::busy, beam -> beam.count(9));
        for (int what : FAR_OFF) {
            Same.badArgument("count(" + what + ")", Texts::busy, beam -> beam.count(what));
        }
    }

    private static void promise6Unit() {
        Check.under("promise 6, the unit");
        Same.answers("bridge", 12, Texts::busy, BeamLines::unit);
        Check.same("the least", 1, Texts.made("beam 2 most 1;support 0;support 1;").unit());
        Check.same("the greatest", 2058, Texts.made("beam 30 most 9;support 0;support 8;support 15;support 23;support 30;"
                + "hinge 7;hinge 14;hinge 22;").unit());
    }

    private static void promise7SupportExists() {
        Check.under("promise 7, the support does not exist");
        Check.same("the last of two", 10, bare().support(1, 0));
        Same.noIndex("behind the last of two", EdgeSetupTest::bare, beam -> beam.support(2, 0));
        Check.same("the last of five", 29, full().support(4, 0));
        Same.noIndex("behind the last of five", EdgeSetupTest::full, beam -> beam.support(5, 0));
        Same.noIndex("before the first", Texts::busy, beam -> beam.support(-1, 0));
        for (int number : FAR_OFF) {
            Same.noIndex("support " + number, Texts::busy, beam -> beam.support(number, 1));
        }
        Same.noIndex("and what is wrong, too", Texts::busy, beam -> beam.support(3, 2));
        Same.noIndex("and what is wrong, too", Texts::busy, beam -> beam.support(-1, -1));
    }

    private static void promise7What() {
        Check.under("promise 7, any other what");
        Same.answers("place", 12, Texts::busy, beam -> beam.support(2, 0));
        Same.answers("bearing", 20, Texts::busy, beam -> beam.support(2, 1));
        Same.badArgument("what 2", Texts::busy, beam -> beam.support(2, 2));
        Same.badArgument("what -1", Texts::busy, beam -> beam.support(0, -1));
        for (int what : FAR_OFF) {
            Same.badArgument("what " + what, Texts::busy, beam -> beam.support(0, what));
        }
    }

    private static void promise7Bearing() {
        Check.under("promise 7, its bearing, NONE without one");
        Check.same("greatest", 99999, full().support(2, 1));
        Check.same("least", 1, full().support(4, 1));
        Check.same("none", -1, full().support(3, 1));
    }

    private static void promise8HingeExists() {
        Check.under("promise 8, the hinge does not exist");
        Same.noIndex("no hinge at all", EdgeSetupTest::bare, beam -> beam.hinge(0));
        Same.answers("the only one", 6, Texts::busy, beam -> beam.hinge(0));
        Same.noIndex("behind the only one", Texts::busy, beam -> beam.hinge(1));
        Same.answers("the last of three", 27, EdgeSetupTest::full, beam -> beam.hinge(2));
        Same.noIndex("behind the last of three", EdgeSetupTest::full, beam -> beam.hinge(3));
        Same.noIndex("before the first", EdgeSetupTest::full, beam -> beam.hinge(-1));
        for (int number : FAR_OFF) {
            Same.noIndex("hinge " + number, Texts::busy, beam -> beam.hinge(number));
        }
    }

    private static void promise9LoadExists() {
        Check.under("promise 9, the load does not exist");
        Same.noIndex("no load at all", EdgeSetupTest::bare, beam -> beam.weight(0, 0));
        Check.same("the last of three", 1, Texts.busy().weight(2, 0));
        Same.noIndex("behind the last of three", Texts::busy, beam -> beam.weight(3, 0));
        Check.same("the last of eight", 1, full().weight(7, 0));
        Same.noIndex("behind the last of eight", EdgeSetupTest::full, beam -> beam.weight(8, 0));
        Same.noIndex("before the first", EdgeSetupTest::full, beam -> beam.weight(-1, 1));
        for (int number : FAR_OFF) {
            Same.noIndex("load " + number, Texts::busy, beam -> beam.weight(number, 1));
        }
        Same.noIndex("and what is wrong, too", Texts::busy, beam -> beam.weight(3, 2));
        Same.noIndex("and what is wrong, too", Texts::busy, beam -> beam.weight(-1, -1));
    }

    private static void promise9What() {
        Check.under("promise 9, any other what");
        Same.answers("weight", 4, Texts::busy, beam -> beam.weight(1, 0));
        Same.answers("place", 9, Texts::busy, beam -> beam.weight(1, 1));
        Same.badArgument("what 2", Texts::busy, beam -> beam.weight(2, 2));
        Same.badArgument("what -1", Texts::busy, beam -> beam.weight(0, -1));
        for (int what : FAR_OFF) {
            Same.badArgument("what " + what, Texts::busy, beam -> beam.weight(0, what));
        }
    }

    private static void promise10AxleExists() {
        Check.under("promise 10, the axle does not exist");
        Same.noIndex("no axle at all", EdgeSetupTest::bare, beam -> beam.axle(0, 0));
        Check.same("the last of two", 2, Texts.busy().axle(1, 0));
        Same.noIndex("behind the last of two", Texts::busy, beam -> beam.axle(2, 0));
        Check.same("the last of six", 1, full().axle(5, 0));
        Same.noIndex("behind the last of six", EdgeSetupTest::full, beam -> beam.axle(6, 0));
        Same.noIndex("before the first", EdgeSetupTest::full, beam -> beam.axle(-1, 1));
        for (int number : FAR_OFF) {
            Same.noIndex("axle " + number, Texts::busy, beam -> beam.axle(number, 1));
        }
        Same.noIndex("and what is wrong, too", Texts::busy, beam -> beam.axle(2, 2));
        Same.noIndex("and what is wrong, too", Texts::busy, beam -> beam.axle(-1, -1));
    }

    private static void promise10What() {
        Check.under("promise 10, any other what");
        Same.answers("weight", 2, Texts::busy, beam -> beam.axle(1, 0));
        Same.answers("behind", 3, Texts::busy, beam -> beam.axle(1, 1));
        Same.badArgument("what 2", Texts::busy, beam -> beam.axle(1, 2));
        Same.badArgument("what -1", Texts::busy, beam -> beam.axle(0, -1));
        for (int what : FAR_OFF) {
            Same.badArgument("what " + what, Texts::busy, beam -> beam.axle(0, what));
        }
    }

    private static void promise11AtHinges() {
        Check.under("promise 11, a hinge belongs to the part right of it");
        Check.same("just left of the hinge", 0, Texts.busy().part(5));
        Check.same("at the hinge", 1, Texts.busy().part(6));
        Check.same("just right of the hinge", 1, Texts.busy().part(7));
    }

    private static void promise11PartsOfAllPlaces() {
        Check.under("promise 11, parts numbered from 0 from the left");
        BeamLines beam = full();
        for (int place = 0; place <= 30; place++) {
            int due = place < 15 ? 0 : place < 16 ? 1 : place < 27 ? 2 : 3;
            Check.same("part of " + place, due, beam.part(place));
        }
        Check.same("no hinge at all, the first place", 0, bare().part(0));
        Check.same("no hinge at all, the last place", 0, bare().part(10));
    }

    private static void promise11PlaceExists() {
        Check.under("promise 11, the place does not exist");
        Same.answers("first", 0, Texts::busy, beam -> beam.part(0));
        Same.answers("last", 1, Texts::busy, beam -> beam.part(12));
        Same.noIndex("before the first", Texts::busy, beam -> beam.part(-1));
        Same.noIndex("behind the last", Texts::busy, beam -> beam.part(13));
        Same.noIndex("behind the last of the longest beam", EdgeSetupTest::full, beam -> beam.part(31));
        for (int place : FAR_OFF) {
            Same.noIndex("place " + place, Texts::busy, beam -> beam.part(place));
        }
    }
}
