/** Promises 33 to 40: the bounds of changes and their refusals. */
final class EdgeChangeTest {
    private static final int[] FAR_OFF = {Integer.MIN_VALUE, -256, 256, Integer.MAX_VALUE};
    private static final String FOUR = "beam 20 most 77;support 0 bears 5;support 5;support 11;support 20 bears 8;hinge 7;hinge 15;";
    private static final String LOADS = "beam 10 most 77;support 0;support 10;load 1 at 0;load 2 at 1;load 3 at 2;load 4 at 3;load 5 at 4;"
            + "load 6 at 5;load 7 at 6;";
    private static final String AXLES = "beam 10 most 77;support 0;support 10;axle 1 behind 0;axle 2 behind 1;axle 3 behind 2;"
            + "axle 4 behind 3;axle 5 behind 4;";

    public static void main(String[] args) {
        promise33AllPlaces();
        promise33OwnPlace();
        promise33NumberedAnew();
        promise33AllElseStays();
        promise33LowestReason();
        promise33DoesNotExist();
        promise34AllPlaces();
        promise34OwnPlace();
        promise34AllElseStays();
        promise34LowestReason();
        promise34PlaceOutOfRange();
        promise34DoesNotExist();
        promise35LeastAndGreatest();
        promise35WeightOutOfRange();
        promise35DoesNotExist();
        promise35EightLoads();
        promise36FirstAndLast();
        promise36DoesNotExist();
        promise37LeastAndGreatest();
        promise37OutOfRange();
        promise37SixAxles();
        promise38FirstAndLast();
        promise38DoesNotExist();
        promise39LeastAndGreatest();
        promise39OutOfRange();
        promise39DoesNotExist();
        promise40LeastAndGreatest();
        promise40OutOfRange();
        Check.end();
    }

    private static BeamLines four() {
        return Texts.busy(FOUR);
    }

    private static BeamLines bare() {
        return new BeamLines();
    }

    private static BeamLines eightLoads() {
        return Texts.busy(LOADS + "load 999 at 10;");
    }

    private static BeamLines sixAxles() {
        return Texts.busy(AXLES + "axle 999 behind 30;");
    }

    /** That a change answers this, and is the one change behind the three that made the busy beam. */
    private static BeamLines changed(String what, long due, BeamLines busy, Same.Use change) {
        Check.same(what, due, change.on(busy));
        busy.setMost(500);
        Check.same("changes with " + what, 4, busy.undo());
        return busy;
    }

    private static void moved(int support, int place, int due) {
        String what = "support " + support + " to " + place;
        if (due < 0) {
            Same.answers(what, due, Texts::busy, beam -> beam.moveSupport(support, place));
            return;
        }
        BeamLines beam = changed(what, due, Texts.busy(), one -> one.moveSupport(support, place));
        Check.same("place of " + what, place, beam.support(due, 0));
    }

    private static void promise33AllPlaces() {
        Check.under("promise 33, its number then; -11 or -12 if it is refused");
        int[][] due = {{0, 0, 0, 0, -11, 1, -11, 1, 1, 1, 1, 1, -11}, {-11, 1, 1, 1, 1, 1, -11, 1, 1, 1, 1, 1, -11},
            {-11, -12, -12, -12, -11, -12, -11, 2, 2, 2, 2, 2, 2}};
        for (int support = 0; support < 3; support++) {
            for (int place = 0; place <= 12; place++) {
                moved(support, place, due[support][place]);
            }
        }
    }

    private static void promise33OwnPlace() {
        Check.under("promise 33, its own place is no refusal");
        for (int support = 0; support < 4; support++) {
            int one = support;
            int place = four().support(support, 0);
            BeamLines beam = changed("support " + support, support, four(), other -> other.moveSupport(one, place));
            Check.same("it stands there", place, beam.support(support, 0));
        }
    }

    private static void promise33NumberedAnew() {
        Check.under("promise 33, supports are numbered anew by their places, the bearing stays with the support");
        BeamLines beam = changed("the first one beyond two", 2, four(), one -> one.moveSupport(0, 16));
        int[][] due = {{5, -1}, {11, -1}, {16, 5}, {20, 8}};
        for (int number = 0; number < due.length; number++) {
            Check.same("place " + number, due[number][0], beam.support(number, 0));
            Check.same("bearing " + number, due[number][1], beam.support(number, 1));
        }
        Check.same("the last one beyond two", 1, beam.moveSupport(3, 8));
        int[][] then = {{5, -1}, {8, 8}, {11, -1}, {16, 5}};
        for (int number = 0; number < then.length; number++) {
            Check.same("place " + number, then[number][0], beam.support(number, 0));
            Check.same("bearing " + number, then[number][1], beam.support(number, 1));
        }
        Check.same("the hinges stay", 7 * 15, beam.hinge(0) * beam.hinge(1));
        Check.same("just beside its old place", 1, beam.moveSupport(1, 9));
        Check.same("the lines are those of the new places", beam.unit(), beam.reactionLine(1, 9));
    }

    /** A beam that is none of those that were read, tried or refused before. */
    private static BeamLines changedOften() {
        BeamLines beam = Texts.made(Texts.BRIDGE);
        beam.tryHinge(0, 5);
        beam.moveSupport(0, 1);
        beam.moveSupport(2, 5);
        beam.setMost(77);
        beam.setBearing(0, 88);
        beam.addLoad(9, 9);
        beam.dropAxle(0);
        beam.undo();
        beam.dropAxle(1);
        return beam;
    }

    private static void allElseStays(BeamLines beam) {
        int[] due = {12, 3, 1, 4, 1, 77, 17, 5, 12};
        for (int what = 0; what < due.length; what++) {
            Check.same("count(" + what + ")", due[what], beam.count(what));
        }
        Check.same("bearing of the left support", 88, beam.support(0, 1));
        Check.same("bearing of the right support", 20, beam.support(2, 1));
        Check.same("the latest load", 9, beam.weight(3, 1));
        Check.same("the axle", 0, beam.axle(0, 1));
    }

    private static void promise33AllElseStays() {
        Check.under("promise 33, all else stays as it is");
        BeamLines beam = changedOften();
        Check.same("moved", 1, beam.moveSupport(1, 3));
        Check.same("left", 1, beam.support(0, 0));
        Check.same("middle", 3, beam.support(1, 0));
        Check.same("right", 12, beam.support(2, 0));
        Check.same("hinge", 6, beam.hinge(0));
        allElseStays(beam);
    }

    private static void promise34AllElseStays() {
        Check.under("promise 34, all else stays as it is");
        BeamLines beam = changedOften();
        Check.same("moved", 0, beam.moveHinge(0, 8));
        Check.same("left", 1, beam.support(0, 0));
        Check.same("middle", 4, beam.support(1, 0));
        Check.same("hinge", 8, beam.hinge(0));
        allElseStays(beam);
    }

    private static void promise33LowestReason() {
        Check.under("promise 33, the lowest reason is told");
        Same.Making making = () -> Texts.busy("beam 12 most 50;support 2;support 4;support 6;hinge 5;");
        Same.answers("a support there, and it would not stand", -11, making, beam -> beam.moveSupport(2, 4));
        Same.answers("a hinge there, and it would not stand", -11, making, beam -> beam.moveSupport(2, 5));
        Same.answers("it would not stand", -12, making, beam -> beam.moveSupport(2, 3));
        Check.same("it would stand", 2, making.beam().moveSupport(2, 7));
    }

    private static void promise33DoesNotExist() {
        Check.under("promise 33, the support or the place does not exist");
        Same.noIndex("place -1", Texts::busy, beam -> beam.moveSupport(0, -1));
        Same.noIndex("place 13", Texts::busy, beam -> beam.moveSupport(0, 13));
        Same.noIndex("support -1", Texts::busy, beam -> beam.moveSupport(-1, 1));
        Same.noIndex("support 3", Texts::busy, beam -> beam.moveSupport(3, 1));
        Same.noIndex("both", Texts::busy, beam -> beam.moveSupport(3, 13));
        Same.noIndex("a place that is taken", Texts::busy, beam -> beam.moveSupport(3, 0));
        for (int number : FAR_OFF) {
            Same.noIndex("support " + number, Texts::busy, beam -> beam.moveSupport(number, 1));
            Same.noIndex("place " + number, Texts::busy, beam -> beam.moveSupport(0, number));
        }
        Same.noIndex("place 31 of the longest beam", () -> Texts.busy("beam 30 most 9;support 0;support 30;"), beam -> beam.moveSupport(1, 31));
    }

    private static void hingeMoved(int hinge, int place, int due) {
        String what = "hinge " + hinge + " to " + place;
        if (due < 0) {
            Same.answers(what, due, EdgeChangeTest::four, beam -> beam.moveHinge(hinge, place));
            return;
        }
        BeamLines beam = changed(what, due, four(), one -> one.moveHinge(hinge, place));
        Check.same("place of " + what, place, beam.hinge(due));
        Check.same("no moment there", 0, beam.momentLine(place, 6));
    }

    private static void promise34AllPlaces() {
        Check.under("promise 34, its number then; -11 or -12 if it is refused");
        int[] first = {0, 0, 0, 0, -11, 0, 0, 0, 0, 0, -11, -12, -12, -12, -11, -12, -12, -12, -12};
        int[] second = {0, 0, 0, 0, -11, 0, -11, 1, 1, 1, -11, 1, 1, 1, 1, 1, 1, 1, 1};
        for (int place = 1; place <= 19; place++) {
            hingeMoved(0, place, first[place - 1]);
            hingeMoved(1, place, second[place - 1]);
        }
    }

    private static void promise34OwnPlace() {
        Check.under("promise 34, its own place is no refusal");
        BeamLines beam = changed("hinge 0", 0, four(), one -> one.moveHinge(0, 7));
        Check.same("it stays", 7, beam.hinge(0));
        Check.same("hinge 1", 1, beam.moveHinge(1, 15));
        Check.same("it stays", 15, beam.hinge(1));
    }

    private static void promise34LowestReason() {
        Check.under("promise 34, the lowest reason is told");
        Same.Making making = () -> Texts.busy("beam 12 most 50;support 2;support 4;support 6;hinge 5;");
        Same.answers("a support there, and it would not stand", -11, making, beam -> beam.moveHinge(0, 6));
        Same.answers("it would not stand", -12, making, beam -> beam.moveHinge(0, 7));
        Same.answers("another hinge there, and it would not stand", -11, EdgeChangeTest::four, beam -> beam.moveHinge(0, 15));
    }

    private static void promise34PlaceOutOfRange() {
        Check.under("promise 34, a place of 1 to the length less 1");
        Check.same("1", 0, Texts.busy().moveHinge(0, 1));
        Check.same("11", 0, Texts.busy().moveHinge(0, 11));
        Same.badArgument("0", Texts::busy, beam -> beam.moveHinge(0, 0));
        Same.badArgument("12", Texts::busy, beam -> beam.moveHinge(0, 12));
        Same.badArgument("-1", Texts::busy, beam -> beam.moveHinge(0, -1));
        Same.badArgument("13", Texts::busy, beam -> beam.moveHinge(0, 13));
        for (int place : FAR_OFF) {
            Same.badArgument("" + place, Texts::busy, beam -> beam.moveHinge(0, place));
        }
    }

    private static void promise34DoesNotExist() {
        Check.under("promise 34, the hinge does not exist");
        Same.noIndex("behind the last one", Texts::busy, beam -> beam.moveHinge(1, 3));
        Same.noIndex("before the first one", Texts::busy, beam -> beam.moveHinge(-1, 3));
        Same.noIndex("no hinge at all", EdgeChangeTest::bare, beam -> beam.moveHinge(0, 3));
        Same.noIndex("and the place is out of range, too", Texts::busy, beam -> beam.moveHinge(1, 0));
        Same.noIndex("and the place is out of range, too", Texts::busy, beam -> beam.moveHinge(-1, 12));
        for (int hinge : FAR_OFF) {
            Same.noIndex("" + hinge, Texts::busy, beam -> beam.moveHinge(hinge, 3));
        }
    }

    private static void promise35LeastAndGreatest() {
        Check.under("promise 35, a weight of 1 to 999, a place of the beam");
        BeamLines beam = changed("1 at the first place", 3, Texts.busy(), one -> one.addLoad(1, 0));
        Check.same("weight", 1, beam.weight(3, 0));
        Check.same("place", 0, beam.weight(3, 1));
        Check.same("999 at the last place", 4, beam.addLoad(999, 12));
        Check.same("weight", 999, beam.weight(4, 0));
        Check.same("place", 12, beam.weight(4, 1));
        Check.same("the first one", 0, new BeamLines().addLoad(5, 5));
        Check.same("the last place of the longest beam", 0, Texts.made("beam 30 most 9;support 0;support 30;").addLoad(5, 30));
    }

    private static void promise35WeightOutOfRange() {
        Check.under("promise 35, weight is out of range");
        Same.badArgument("0", Texts::busy, beam -> beam.addLoad(0, 0));
        Same.badArgument("1000", Texts::busy, beam -> beam.addLoad(1000, 12));
        Same.badArgument("-1", Texts::busy, beam -> beam.addLoad(-1, 12));
        for (int weight : new int[] {Integer.MIN_VALUE, -65535, 65537, Integer.MAX_VALUE}) {
            Same.badArgument("" + weight, Texts::busy, beam -> beam.addLoad(weight, 5));
        }
    }

    private static void promise35DoesNotExist() {
        Check.under("promise 35, the place does not exist");
        Same.noIndex("-1", Texts::busy, beam -> beam.addLoad(1, -1));
        Same.noIndex("13", Texts::busy, beam -> beam.addLoad(999, 13));
        Same.noIndex("and weight is out of range, too", Texts::busy, beam -> beam.addLoad(0, 13));
        Same.noIndex("and weight is out of range, too", Texts::busy, beam -> beam.addLoad(1000, -1));
        for (int place : FAR_OFF) {
            Same.noIndex("" + place, Texts::busy, beam -> beam.addLoad(1, place));
        }
    }

    private static void promise35EightLoads() {
        Check.under("promise 35, there are 8 loads");
        BeamLines beam = changed("the 8th", 7, Texts.busy(LOADS), one -> one.addLoad(5, 5));
        Check.same("its weight", 5, beam.weight(7, 0));
        Same.answers("the 9th", -13, EdgeChangeTest::eightLoads, one -> one.addLoad(5, 5));
        Same.badArgument("the 9th, out of range", EdgeChangeTest::eightLoads, one -> one.addLoad(0, 5));
        Same.noIndex("the 9th, elsewhere", EdgeChangeTest::eightLoads, one -> one.addLoad(5, 11));
        BeamLines again = eightLoads();
        again.dropLoad(0);
        Check.same("there is room again", 7, again.addLoad(5, 5));
        Check.same("but no more", -13, again.addLoad(5, 5));
    }

    private static void promise36FirstAndLast() {
        Check.under("promise 36, those behind it have one number less");
        for (int dropped = 0; dropped < 8; dropped++) {
            int one = dropped;
            BeamLines beam = changed("load " + dropped, dropped == 7 ? 999 : dropped + 1, eightLoads(), other -> other.dropLoad(one));
            Check.same("how many are left", 7, beam.count(3));
            for (int number = 0; number < 7; number++) {
                int before = number < dropped ? number : number + 1;
                Check.same("weight " + number, before == 7 ? 999 : before + 1, beam.weight(number, 0));
                Check.same("place " + number, before == 7 ? 10 : before, beam.weight(number, 1));
            }
            Check.noIndex("the last one", () -> beam.weight(7, 0));
        }
        BeamLines last = Texts.made("beam 10 most 77;support 0;support 10;load 3 at 3;");
        Check.same("the only one", 3, last.dropLoad(0));
        Check.same("none is left", 0, last.count(3) + last.count(6));
    }

    private static void promise36DoesNotExist() {
        Check.under("promise 36, the load does not exist");
        Same.noIndex("behind the last one", Texts::busy, beam -> beam.dropLoad(3));
        Same.noIndex("before the first one", Texts::busy, beam -> beam.dropLoad(-1));
        Same.noIndex("none at all", EdgeChangeTest::bare, beam -> beam.dropLoad(0));
        Same.noIndex("behind the last of eight", EdgeChangeTest::eightLoads, beam -> beam.dropLoad(8));
        for (int load : FAR_OFF) {
            Same.noIndex("" + load, Texts::busy, beam -> beam.dropLoad(load));
        }
    }

    private static void promise37LeastAndGreatest() {
        Check.under("promise 37, a weight of 1 to 999, 0 to 30 behind");
        BeamLines beam = changed("1 at the head", 2, Texts.busy(), one -> one.addAxle(1, 0));
        Check.same("weight", 1, beam.axle(2, 0));
        Check.same("behind", 0, beam.axle(2, 1));
        Check.same("999 far behind", 3, beam.addAxle(999, 30));
        Check.same("weight", 999, beam.axle(3, 0));
        Check.same("behind", 30, beam.axle(3, 1));
        Check.same("the last head", 42, beam.count(8));
        Check.same("the first one", 0, new BeamLines().addAxle(5, 5));
        Check.same("farther behind than the beam is long", 0, Texts.made("beam 2 most 9;support 0;support 2;").addAxle(5, 30));
    }

    private static void promise37OutOfRange() {
        Check.under("promise 37, weight or behind is out of range");
        Same.badArgument("weight 0", Texts::busy, beam -> beam.addAxle(0, 0));
        Same.badArgument("weight 1000", Texts::busy, beam -> beam.addAxle(1000, 30));
        Same.badArgument("weight -1", Texts::busy, beam -> beam.addAxle(-1, 0));
        Same.badArgument("behind -1", Texts::busy, beam -> beam.addAxle(1, -1));
        Same.badArgument("behind 31", Texts::busy, beam -> beam.addAxle(999, 31));
        Same.badArgument("both", Texts::busy, beam -> beam.addAxle(0, 31));
        for (int number : new int[] {Integer.MIN_VALUE, -65535, 65537, Integer.MAX_VALUE}) {
            Same.badArgument("weight " + number, Texts::busy, beam -> beam.addAxle(number, 5));
            Same.badArgument("behind " + number, Texts::busy, beam -> beam.addAxle(5, number));
        }
    }

    private static void promise37SixAxles() {
        Check.under("promise 37, there are 6 axles");
        BeamLines beam = changed("the 6th", 5, Texts.busy(AXLES), one -> one.addAxle(7, 9));
        Check.same("its weight", 7, beam.axle(5, 0));
        Same.answers("the 7th", -14, EdgeChangeTest::sixAxles, one -> one.addAxle(5, 5));
        Same.badArgument("the 7th, too light", EdgeChangeTest::sixAxles, one -> one.addAxle(0, 5));
        Same.badArgument("the 7th, too far behind", EdgeChangeTest::sixAxles, one -> one.addAxle(5, 31));
        BeamLines again = sixAxles();
        again.dropAxle(0);
        Check.same("there is room again", 5, again.addAxle(5, 5));
        Check.same("but no more", -14, again.addAxle(5, 5));
    }

    private static void promise38FirstAndLast() {
        Check.under("promise 38, those behind it have one number less");
        for (int dropped = 0; dropped < 6; dropped++) {
            int one = dropped;
            BeamLines beam = changed("axle " + dropped, dropped == 5 ? 999 : dropped + 1, sixAxles(), other -> other.dropAxle(one));
            Check.same("how many are left", 5, beam.count(4));
            for (int number = 0; number < 5; number++) {
                int before = number < dropped ? number : number + 1;
                Check.same("weight " + number, before == 5 ? 999 : before + 1, beam.axle(number, 0));
                Check.same("behind " + number, before == 5 ? 30 : before, beam.axle(number, 1));
            }
            Check.noIndex("the last one", () -> beam.axle(5, 0));
            Check.same("the last head", dropped == 5 ? 14 : 40, beam.count(8));
        }
        BeamLines last = Texts.made("beam 10 most 77;support 0;support 10;axle 3 behind 3;");
        Check.same("the only one", 3, last.dropAxle(0));
        Check.same("none is left", 0, last.count(4) + last.count(7) + last.count(8));
    }

    private static void promise38DoesNotExist() {
        Check.under("promise 38, the axle does not exist");
        Same.noIndex("behind the last one", Texts::busy, beam -> beam.dropAxle(2));
        Same.noIndex("before the first one", Texts::busy, beam -> beam.dropAxle(-1));
        Same.noIndex("none at all", EdgeChangeTest::bare, beam -> beam.dropAxle(0));
        Same.noIndex("behind the last of six", EdgeChangeTest::sixAxles, beam -> beam.dropAxle(6));
        for (int axle : FAR_OFF) {
            Same.noIndex("" + axle, Texts::busy, beam -> beam.dropAxle(axle));
        }
    }

    private static void promise39LeastAndGreatest() {
        Check.under("promise 39, a bearing of 1 to 99999, NONE for anything; the bearing before");
        BeamLines beam = changed("1 in place of 9", 9, Texts.busy(), one -> one.setBearing(0, 1));
        Check.same("now 1", 1, beam.support(0, 1));
        Check.same("99999 in place of 1", 1, beam.setBearing(0, 99999));
        Check.same("now 99999", 99999, beam.support(0, 1));
        Check.same("NONE in place of 99999", 99999, beam.setBearing(0, -1));
        Check.same("now NONE", -1, beam.support(0, 1));
        Check.same("NONE in place of NONE", -1, beam.setBearing(0, -1));
        Check.same("the last support", 20, beam.setBearing(2, 21));
        Check.same("the others stay", -1, beam.support(1, 1));
    }

    private static void promise39OutOfRange() {
        Check.under("promise 39, bearing is out of range");
        for (int bearing : new int[] {0, -2, 100000, Integer.MIN_VALUE, -65535, Integer.MAX_VALUE}) {
            Same.badArgument("" + bearing, Texts::busy, beam -> beam.setBearing(0, bearing));
        }
    }

    private static void promise39DoesNotExist() {
        Check.under("promise 39, the support does not exist");
        Same.noIndex("behind the last one", Texts::busy, beam -> beam.setBearing(3, 1));
        Same.noIndex("before the first one", Texts::busy, beam -> beam.setBearing(-1, 1));
        Same.noIndex("NONE", Texts::busy, beam -> beam.setBearing(3, -1));
        Same.noIndex("and bearing is out of range, too", Texts::busy, beam -> beam.setBearing(3, 0));
        Same.noIndex("and bearing is out of range, too", Texts::busy, beam -> beam.setBearing(-1, 100000));
        for (int support : FAR_OFF) {
            Same.noIndex("" + support, Texts::busy, beam -> beam.setBearing(support, 1));
        }
    }

    private static void promise40LeastAndGreatest() {
        Check.under("promise 40, MOST from 1 to 999999; MOST before");
        BeamLines beam = changed("1 in place of 60", 60, Texts.busy(), one -> one.setMost(1));
        Check.same("now 1", 1, beam.count(5));
        Check.same("999999 in place of 1", 1, beam.setMost(999999));
        Check.same("now 999999", 999999, beam.count(5));
        Check.same("100 in a new beam", 100, new BeamLines().setMost(100));
    }

    private static void promise40OutOfRange() {
        Check.under("promise 40, most is out of range");
        for (int most : new int[] {0, -1, 1000000, Integer.MIN_VALUE, Integer.MAX_VALUE}) {
            Same.badArgument("" + most, Texts::busy, beam -> beam.setMost(most));
        }
    }
}
