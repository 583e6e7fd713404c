/** Promises 30 to 32: the bounds of what would be. */
final class EdgeWouldTest {
    private static final int[] FAR_OFF = {Integer.MIN_VALUE, -256, 256, Integer.MAX_VALUE};
    private static final String FOUR = "beam 20 most 77;support 0;support 5;support 11;support 20;hinge 7;hinge 15;load 3 at 9;";
    private static final String SPAN = ";support 0;support 10;";
    private static final String BEYOND = ";support 2;support 8;";

    public static void main(String[] args) {
        promise30AllPlaces();
        promise30LowestReason();
        promise30PlaceOutOfRange();
        promise30AsTheBeamIsNow();
        promise30DoesNotExist();
        promise31FirstAndLastPlace();
        promise31Leftmost();
        promise31OwnPlace();
        promise31OnlyWhereItStands();
        promise31NotTimesTheUnit();
        promise31LessThanOneApart();
        promise31AllHeads();
        promise31DoesNotExist();
        promise32ByTheMoment();
        promise32ByTheBearing();
        promise32ByWhatLifts();
        promise32ByTheLeastInfluence();
        promise32LeastAndGreatest();
        promise32NotSafeWithoutTheTrain();
        promise32AllHeads();
        promise32OneAxleAlone();
        Check.end();
    }

    private static BeamLines four() {
        return Texts.busy(FOUR);
    }

    private static BeamLines bare() {
        return new BeamLines();
    }

    private static long strongest(int most, String statements) {
        return Texts.made("beam 10 most " + most + statements).strongest();
    }

    private static void promise30AllPlaces() {
        Check.under("promise 30, 0 if the beam would stand, otherwise -11 or -12");
        int[] first = {0, 0, 0, 0, -11, 0, 0, 0, 0, 0, -11, -12, -12, -12, -11, -12, -12, -12, -12};
        int[] second = {0, 0, 0, 0, -11, 0, -11, 0, 0, 0, -11, 0, 0, 0, 0, 0, 0, 0, 0};
        for (int place = 1; place <= 19; place++) {
            int one = place;
            Same.answers("the first hinge at " + place, first[place - 1], EdgeWouldTest::four, beam -> beam.tryHinge(0, one));
            Same.answers("the second hinge at " + place, second[place - 1], EdgeWouldTest::four, beam -> beam.tryHinge(1, one));
        }
    }

    private static void promise30LowestReason() {
        Check.under("promise 30, the lowest reason is told");
        // At 6 there is a support, and a hinge at the last support would leave that part alone.
        Same.answers("both", -11, () -> Texts.busy("beam 12 most 50;support 2;support 4;support 6;hinge 5;"), beam -> beam.tryHinge(0, 6));
        Same.answers("the other one alone", -12, () -> Texts.busy("beam 12 most 50;support 2;support 4;support 6;hinge 5;"),
                beam -> beam.tryHinge(0, 7));
    }

    private static void promise30PlaceOutOfRange() {
        Check.under("promise 30, a place of 1 to the length less 1");
        Same.answers("the least", 0, Texts::busy, beam -> beam.tryHinge(0, 1));
        Same.answers("the greatest", 0, Texts::busy, beam -> beam.tryHinge(0, 11));
        Same.badArgument("0", Texts::busy, beam -> beam.tryHinge(0, 0));
        Same.badArgument("12", Texts::busy, beam -> beam.tryHinge(0, 12));
        Same.badArgument("-1", Texts::busy, beam -> beam.tryHinge(0, -1));
        Same.badArgument("13", Texts::busy, beam -> beam.tryHinge(0, 13));
        for (int place : FAR_OFF) {
            Same.badArgument("" + place, Texts::busy, beam -> beam.tryHinge(0, place));
        }
    }

    private static void promise30AsTheBeamIsNow() {
        Check.under("promise 30, the beam as it is now");
        BeamLines beam = Texts.made("beam 12 most 50;support 0;support 4;support 12;hinge 6;");
        Check.same("the old support", -11, beam.tryHinge(0, 4));
        beam.moveSupport(1, 8);
        Check.same("where it was", 0, beam.tryHinge(0, 4));
        Check.same("where it is", -11, beam.tryHinge(0, 8));
        beam.undo();
        Check.same("where it is again", -11, beam.tryHinge(0, 4));
        Check.same("where it was", 0, beam.tryHinge(0, 8));
        Texts.load(beam, "beam 9 most 9;support 0;support 1;x");
        Check.same("a text with an error is forgotten", 0, beam.tryHinge(0, 1));
        beam.moveSupport(2, 5);
        Check.same("a refusal is forgotten", 0, beam.tryHinge(0, 5));
    }

    private static void promise30DoesNotExist() {
        Check.under("promise 30, the hinge does not exist");
        Same.noIndex("behind the last one", Texts::busy, beam -> beam.tryHinge(1, 3));
        Same.noIndex("before the first one", Texts::busy, beam -> beam.tryHinge(-1, 3));
        Same.noIndex("no hinge at all", EdgeWouldTest::bare, beam -> beam.tryHinge(0, 3));
        for (int hinge : FAR_OFF) {
            Same.noIndex("" + hinge, Texts::busy, beam -> beam.tryHinge(hinge, 3));
        }
        Same.noIndex("and the place is out of range, too", Texts::busy, beam -> beam.tryHinge(1, 0));
        Same.noIndex("and the place is out of range, too", Texts::busy, beam -> beam.tryHinge(-1, 12));
    }

    private static void promise31FirstAndLastPlace() {
        Check.under("promise 31, places from 1 to the length less 1");
        // The load stands in a span, with 1/2, or at the hinge, with 1 at the support.
        Same.answers("the last one", 3, () -> Texts.busy("beam 4 most 9;support 0;support 2;support 4;hinge 1;load 1 at 1;"),
                beam -> beam.bestHinge(0));
        Same.answers("the first one", 1, () -> Texts.busy("beam 4 most 9;support 0;support 2;support 4;hinge 3;load 1 at 3;"),
                beam -> beam.bestHinge(0));
    }

    private static void promise31Leftmost() {
        Check.under("promise 31, of several places the leftmost one");
        Same.answers("no loads at all", 1, () -> Texts.busy("beam 12 most 50;support 0;support 4;support 12;hinge 6;"),
                beam -> beam.bestHinge(0));
        Same.answers("no loads, a support at 1", 2, () -> Texts.busy("beam 12 most 50;support 1;support 4;support 12;hinge 6;"),
                beam -> beam.bestHinge(0));
        Same.answers("5 or 7", 5, () -> Texts.busy("beam 12 most 50;support 0;support 6;support 12;hinge 9;axle 10 behind 0;"),
                beam -> beam.bestHinge(0));
        Same.answers("5 or 7, where it is", 5, () -> Texts.busy("beam 12 most 50;support 0;support 6;support 12;hinge 7;axle 10 behind 0;"),
                beam -> beam.bestHinge(0));
    }

    private static void promise31OwnPlace() {
        Check.under("promise 31, its own place counts, too");
        Same.answers("the best one", 5, () -> Texts.busy("beam 12 most 50;support 0;support 4;support 12;hinge 5;axle 10 behind 0;"),
                beam -> beam.bestHinge(0));
        Same.answers("the only one", 1, () -> Texts.busy("beam 3 most 9;support 0;support 2;support 3;hinge 1;load 5 at 1;"),
                beam -> beam.bestHinge(0));
    }

    private static void promise31OnlyWhereItStands() {
        Check.under("promise 31, only places with which the beam stands");
        Same.answers("neither beyond the supports nor at them", 5, () -> Texts.busy("beam 12 most 50;support 4;support 6;support 8;hinge 7;"),
                beam -> beam.bestHinge(0));
        // With a hinge at 1 the beam falls with another one left of the support at 5.
        Same.answers("neither at the other hinge nor beside it", 6, () -> Texts.busy("beam 20 most 77;support 0;support 5;support 11;support 20;"
                + "hinge 1;hinge 15;"), beam -> beam.bestHinge(1));
    }

    private static void promise31NotTimesTheUnit() {
        Check.under("promise 31, as a number, not times the unit");
        // 120/7 with the unit 28 is less than 20 with the unit 12.
        Same.answers("between 480 and 240", 5, () -> Texts.busy("beam 12 most 50;support 0;support 4;support 12;hinge 6;axle 10 behind 0;"),
                beam -> beam.bestHinge(0));
    }

    private static void promise31LessThanOneApart() {
        Check.under("promise 31, least as a number, though less than one apart");
        // 3/2 at 3, 1 at 4 and at 5.
        Same.answers("3/2 and 1", 4, () -> Texts.busy("beam 8 most 9;support 1;support 6;support 8;hinge 3;load 1 at 0;"),
                beam -> beam.bestHinge(0));
        for (int weight = 1; weight <= 9; weight++) {
            String text = "beam 12 most 50;support 0;support 6;support 12;hinge 9;axle " + weight + " behind 0;";
            Same.answers("5 or 7 with the weight " + weight, 5, () -> Texts.busy(text), beam -> beam.bestHinge(0));
        }
    }

    private static void promise31AllHeads() {
        Check.under("promise 31, of all heads");
        // Without the train any place would do; the only weight comes onto the beam with the last head.
        Same.answers("the train alone", 5, () -> Texts.busy("beam 12 most 50;support 0;support 4;support 12;hinge 6;axle 10 behind 30;"),
                beam -> beam.bestHinge(0));
    }

    private static void promise31DoesNotExist() {
        Check.under("promise 31, the hinge does not exist");
        Same.noIndex("behind the last one", Texts::busy, beam -> beam.bestHinge(1));
        Same.noIndex("before the first one", Texts::busy, beam -> beam.bestHinge(-1));
        Same.noIndex("no hinge at all", EdgeWouldTest::bare, beam -> beam.bestHinge(0));
        for (int hinge : FAR_OFF) {
            Same.noIndex("" + hinge, Texts::busy, beam -> beam.bestHinge(hinge));
        }
    }

    private static void promise32ByTheMoment() {
        Check.under("promise 32, the greatest weight by the moment");
        Check.same("just 40", 40, strongest(100, SPAN));
        Check.same("nearly 40", 39, strongest(99, SPAN));
        Check.same("beside a load", 30, strongest(100, SPAN + "load 10 at 5;"));
        Check.same("just 50 below 0", 50, strongest(100, BEYOND + "load 999 at 2;load 999 at 8;"));
        Check.same("nearly 50 below 0", 49, strongest(99, BEYOND + "load 999 at 2;load 999 at 8;"));
        Check.same("a load there already", 40, strongest(100, BEYOND + "load 999 at 2;load 999 at 8;load 10 at 0;"));
        Check.same("a load there already, on the right", 40, strongest(100, BEYOND + "load 999 at 2;load 999 at 8;load 10 at 10;"));
    }

    private static void promise32ByTheBearing() {
        Check.under("promise 32, the greatest weight by the bearing");
        Check.same("all of it", 30, strongest(100, ";support 0 bears 30;support 10;"));
        Check.same("all of the other one", 29, strongest(100, ";support 0 bears 30;support 10 bears 29;"));
        Check.same("beside a load", 25, strongest(100, ";support 0 bears 30;support 10;load 10 at 5;"));
        Check.same("beside a load, nearly 26", 25, strongest(100, ";support 0 bears 30;support 10;load 9 at 5;"));
        Check.same("beyond the support it bears more", 15, strongest(100, ";support 2 bears 30;support 8;load 10 at 2;load 999 at 8;"));
        Check.same("nothing is left", 0, strongest(100, ";support 0 bears 5;support 10;load 10 at 5;"));
        Check.same("the least", 1, strongest(100, ";support 0 bears 6;support 10;load 10 at 5;"));
    }

    private static void promise32ByWhatLifts() {
        Check.under("promise 32, the greatest weight by what lifts");
        Check.same("just none lifts", 9, strongest(100, BEYOND + "load 6 at 5;"));
        Check.same("nearly 11", 10, strongest(100, BEYOND + "load 7 at 5;"));
        Check.same("the right support lifts first", 6, strongest(100, BEYOND + "load 6 at 4;"));
        Check.same("the left support lifts first", 6, strongest(100, BEYOND + "load 6 at 6;"));
        Check.same("nothing holds it", 0, strongest(100, BEYOND));
        Check.same("a load holds one of them", 0, strongest(100, BEYOND + "load 9 at 2;"));
    }

    private static void promise32ByTheLeastInfluence() {
        Check.under("promise 32, by an influence of one by the unit");
        // An axle at 0 lifts the right support by 1/9 of its weight, and the load holds it down with 1.
        Check.same("just none lifts", 9, strongest(100, ";support 1;support 10;load 1 at 10;"));
        Check.same("on the other side", 9, strongest(100, ";support 0;support 9;load 1 at 0;"));
    }

    private static void promise32LeastAndGreatest() {
        Check.under("promise 32, 1 to 999, 0 if there is none");
        Check.same("0", 0, strongest(2, SPAN));
        Check.same("1", 1, strongest(3, SPAN));
        Check.same("998 by the moment", 998, strongest(2497, SPAN));
        Check.same("999 by the moment", 999, strongest(2498, SPAN));
        Check.same("1000 by the moment", 999, strongest(2500, SPAN));
        Check.same("far more by the moment", 999, strongest(999999, SPAN));
        Check.same("998 by the bearing", 998, strongest(999999, ";support 0 bears 998;support 10;"));
        Check.same("999 by the bearing", 999, strongest(999999, ";support 0 bears 999;support 10;"));
        Check.same("1000 by the bearing", 999, strongest(999999, ";support 0 bears 1000;support 10;"));
        Check.same("1 by the bearing", 1, strongest(999999, ";support 0 bears 1;support 10 bears 9;"));
        Check.same("nothing limits it", 999, Texts.made("beam 2 most 999999;support 0;support 1;load 999 at 0;load 999 at 1;").strongest());
    }

    private static void promise32NotSafeWithoutTheTrain() {
        Check.under("promise 32, 0 if the beam is not safe without the train");
        Check.same("a support lifts", 0, strongest(100, BEYOND + "load 1 at 1;"));
        Check.same("a support bears too much", 0, strongest(100, ";support 0 bears 4;support 10;load 9 at 5;"));
        Check.same("a moment is too great", 0, strongest(24, SPAN + "load 10 at 5;"));
        Check.same("a moment is just not too great", 0, strongest(25, SPAN + "load 10 at 5;"));
        Check.same("there is a little room", 1, strongest(28, SPAN + "load 10 at 5;"));
        Same.answers("its left support is just not lifted without the train", 0, Texts::busy, BeamLines::strongest);
    }

    private static void promise32AllHeads() {
        Check.under("promise 32, safe with all heads, from 0 to the length");
        Check.same("the first place alone", 50, strongest(100, ";support 2;support 10;load 999 at 10;load 999 at 2;"));
        Check.same("the last place alone", 50, strongest(100, ";support 0;support 8;load 999 at 0;load 999 at 8;"));
    }

    private static void promise32OneAxleAlone() {
        Check.under("promise 32, the train is one axle alone, at its head");
        Check.same("an axle now", 40, strongest(100, SPAN + "axle 999 behind 0;"));
        Check.same("axles far behind", 40, strongest(100, SPAN + "axle 999 behind 30;axle 1 behind 4;"));
        Check.same("the most axles", 40, strongest(100, SPAN + "axle 1 behind 0;".repeat(6)));
    }
}
