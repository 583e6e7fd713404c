/** Promises 18 to 29: the bounds of what the loads and the train do. */
final class EdgeForcesTest {
    private static final int[] NO_HEADS = {-2, 16, 61, Integer.MIN_VALUE, -256, 256, Integer.MAX_VALUE};
    private static final int[] NO_PLACES = {-1, 13, 31, Integer.MIN_VALUE, -256, 256, Integer.MAX_VALUE};
    private static final int[] NO_SUPPORTS = {-1, 3, 5, Integer.MIN_VALUE, -256, 256, Integer.MAX_VALUE};
    private static final int[] NO_FIELDS = {-1, 12, 13, 30, Integer.MIN_VALUE, -256, 256, Integer.MAX_VALUE};
    private static final String SPAN = "beam 10 most 100;support 0;support 10;";
    private static final String BEYOND = "beam 10 most 100;support 2;support 8;";
    private static final String FINEST = "beam 30 most 999999;support 0;support 8;support 15;support 23;support 30;"
            + "hinge 7;hinge 14;hinge 22;";
    /** The load lifts the left support, but with each head an axle holds it down. */
    private static final String HELD = "beam 16 most 9;support 6;support 8;support 10;hinge 9;load 1 at 9;axle 1 behind 0;axle 1 behind 3;";

    public static void main(String[] args) {
        promise18Heads();
        promise18GreatestWeights();
        promise18DoesNotExist();
        promise19Heads();
        promise19DoesNotExist();
        promise20Heads();
        promise20BehindALongerBeam();
        promise20DoesNotExist();
        promise21Heads();
        promise21DoesNotExist();
        promise22Heads();
        promise22DoesNotExist();
        promise23Heads();
        promise23DoesNotExist();
        promise24Leftmost();
        promise24Heads();
        promise25Reasons();
        promise25Heads();
        promise26First();
        promise26None();
        promise27Bits();
        promise27SomeHead();
        promise28NoWeights();
        promise28WeightsOnTheBeam();
        promise28DoesNotExist();
        promise29LeastAndGreatest();
        promise29Heads();
        promise29ConvertedToFloat();
        Check.end();
    }

    private static BeamLines withoutAxles() {
        return Texts.busy(SPAN + "load 4 at 5;");
    }

    private static BeamLines longestWay() {
        return Texts.busy("beam 30 most 9;support 0;support 30;axle 1 behind 30;");
    }

    // ---- with one head

    private static void promise18Heads() {
        Check.under("promise 18, the head: 0 to the last head, NONE without the train");
        Same.answers("NONE", 72, Texts::busy, beam -> beam.reaction(1, -1));
        Same.answers("0", 60, Texts::busy, beam -> beam.reaction(0, 0));
        Same.answers("last", 48, Texts::busy, beam -> beam.reaction(2, 15));
        for (int head : NO_HEADS) {
            Same.badArgument("head " + head, Texts::busy, beam -> beam.reaction(0, head));
        }
        Same.answers("0 without axles", 20, EdgeForcesTest::withoutAxles, beam -> beam.reaction(0, 0));
        Same.badArgument("1 without axles", EdgeForcesTest::withoutAxles, beam -> beam.reaction(0, 1));
        Same.answers("60", 30, EdgeForcesTest::longestWay, beam -> beam.reaction(1, 60));
        Same.badArgument("61", EdgeForcesTest::longestWay, beam -> beam.reaction(1, 61));
    }

    private static void promise18GreatestWeights() {
        Check.under("promise 18, the greatest weights");
        BeamLines beam = Texts.made(FINEST + "load 999 at 7;".repeat(8) + "axle 999 behind 0;".repeat(6));
        long[] due = {0, 2401, -392, 56, -7};
        for (int support = 0; support < due.length; support++) {
            Check.same("reaction " + support, 13986 * due[support], beam.reaction(support, 7));
        }
    }

    private static void promise18DoesNotExist() {
        Check.under("promise 18, the support does not exist");
        for (int support : NO_SUPPORTS) {
            Same.noIndex("support " + support, Texts::busy, beam -> beam.reaction(support, 0));
        }
        Same.noIndex("and the head is out of range, too", Texts::busy, beam -> beam.reaction(3, 16));
        Same.noIndex("and the head is out of range, too", Texts::busy, beam -> beam.reaction(-1, -2));
    }

    private static void promise19Heads() {
        Check.under("promise 19, fields from 0 to the length less 1, the head: 0 to the last head, NONE without the train");
        Same.answers("first field, NONE", 0, Texts::busy, beam -> beam.shear(0, -1));
        Same.answers("first field, head 3", 39 - 24, Texts::busy, beam -> beam.shear(0, 3));
        Same.answers("first field, head 0", 0, Texts::busy, beam -> beam.shear(0, 0));
        Same.answers("last field, last head", -24, Texts::busy, beam -> beam.shear(11, 15));
        for (int head : NO_HEADS) {
            Same.badArgument("head " + head, Texts::busy, beam -> beam.shear(0, head));
        }
        Same.answers("0 without axles", -20, EdgeForcesTest::withoutAxles, beam -> beam.shear(9, 0));
        Same.badArgument("1 without axles", EdgeForcesTest::withoutAxles, beam -> beam.shear(9, 1));
        Same.answers("60", 0, EdgeForcesTest::longestWay, beam -> beam.shear(29, 60));
        Same.answers("59", -29, EdgeForcesTest::longestWay, beam -> beam.shear(29, 59));
        Same.badArgument("61", EdgeForcesTest::longestWay, beam -> beam.shear(29, 61));
    }

    private static void promise19DoesNotExist() {
        Check.under("promise 19, the field does not exist");
        for (int field : NO_FIELDS) {
            Same.noIndex("field " + field, Texts::busy, beam -> beam.shear(field, 0));
        }
        Same.noIndex("and the head is out of range, too", Texts::busy, beam -> beam.shear(12, 16));
        Same.noIndex("and the head is out of range, too", Texts::busy, beam -> beam.shear(-1, -2));
    }

    private static void promise20Heads() {
        Check.under("promise 20, sections from 0 to the length, the head: 0 to the last head, NONE without the train");
        Same.answers("NONE", -72, Texts::busy, beam -> beam.moment(4, -1));
        Same.answers("0", -72, Texts::busy, beam -> beam.moment(4, 0));
        Same.answers("last head", 72, Texts::busy, beam -> beam.moment(9, 15));
        Same.answers("first section", 0, Texts::busy, beam -> beam.moment(0, 3));
        Same.answers("last section", 0, Texts::busy, beam -> beam.moment(12, 12));
        for (int head : NO_HEADS) {
            Same.badArgument("head " + head, Texts::busy, beam -> beam.moment(4, head));
        }
        Same.answers("0 without axles", 100, EdgeForcesTest::withoutAxles, beam -> beam.moment(5, 0));
        Same.badArgument("1 without axles", EdgeForcesTest::withoutAxles, beam -> beam.moment(5, 1));
        Same.answers("59", 29, EdgeForcesTest::longestWay, beam -> beam.moment(29, 59));
        Same.badArgument("61", EdgeForcesTest::longestWay, beam -> beam.moment(29, 61));
    }

    private static void promise20BehindALongerBeam() {
        Check.under("promise 20, nothing is left of a longer beam");
        BeamLines beam = Texts.made("beam 30 most 9;support 0;support 30;load 999 at 10;");
        Check.same("at 10 of the longer one", 999 * 200, beam.moment(10, 0));
        Texts.load(beam, SPAN + "load 1 at 5;");
        Check.same("at the last place", 0, beam.moment(10, 0));
        Check.same("its influence", 0, beam.momentLine(10, 5));
        Check.same("none without the load", 0, beam.dropLoad(0) - 1 + beam.worstSection());
        Check.same("safe", 0, beam.danger(0));
    }

    private static void promise20DoesNotExist() {
        Check.under("promise 20, the place of the section does not exist");
        for (int place : NO_PLACES) {
            Same.noIndex("section " + place, Texts::busy, beam -> beam.moment(place, 0));
        }
        Same.noIndex("and the head is out of range, too", Texts::busy, beam -> beam.moment(13, 16));
        Same.noIndex("and the head is out of range, too", Texts::busy, beam -> beam.moment(-1, -2));
    }

    // ---- the worst heads

    private static void promise21Heads() {
        Check.under("promise 21, the lowest of the worst heads, from 0 to the last one");
        Same.answers("greatest with the head 0", 0, Texts::busy, beam -> beam.worstForReaction(0, true));
        Same.answers("greatest between", 6, Texts::busy, beam -> beam.worstForReaction(1, true));
        Same.answers("least between", 9, Texts::busy, beam -> beam.worstForReaction(0, false));
        Same.answers("least with two heads", 0, Texts::busy, beam -> beam.worstForReaction(1, false));
        Same.answers("greatest with the last head", 60, EdgeForcesTest::longestWay, beam -> beam.worstForReaction(1, true));
        Same.answers("greatest with the head 30", 30, EdgeForcesTest::longestWay, beam -> beam.worstForReaction(0, true));
        Same.answers("least with all heads up to 30", 0, EdgeForcesTest::longestWay, beam -> beam.worstForReaction(1, false));
        Same.answers("one head alone", 0, EdgeForcesTest::withoutAxles, beam -> beam.worstForReaction(1, true));
        BeamLines last = Texts.made("beam 10 most 9;support 0;support 9;axle 5 behind 30;");
        Check.same("least with the last head", 40, last.worstForReaction(0, false));
        BeamLines up = Texts.made(BEYOND + "load 999 at 0;axle 1 behind 0;");
        Check.same("greatest of those below 0", 10, up.worstForReaction(1, true));
        Check.same("least of those above 0", 10, up.worstForReaction(0, false));
        BeamLines held = Texts.made(HELD);
        Check.same("less without the train", 1, held.reaction(0, -1) < held.reaction(0, held.worstForReaction(0, false)) ? 1 : 0);
    }

    private static void promise21DoesNotExist() {
        Check.under("promise 21, the support does not exist");
        for (int support : NO_SUPPORTS) {
            Same.noIndex("support " + support, Texts::busy, beam -> beam.worstForReaction(support, true));
            Same.noIndex("support " + support, Texts::busy, beam -> beam.worstForReaction(support, false));
        }
    }

    private static void promise22Heads() {
        Check.under("promise 22, the lowest of the worst heads, from 0 to the last one");
        Same.answers("greatest", 9, Texts::busy, beam -> beam.worstForShear(8, true));
        Same.answers("least", 8, Texts::busy, beam -> beam.worstForShear(8, false));
        Same.answers("first field", 1, Texts::busy, beam -> beam.worstForShear(0, true));
        Same.answers("last field", 11, Texts::busy, beam -> beam.worstForShear(11, false));
        Same.answers("one head alone", 0, EdgeForcesTest::withoutAxles, beam -> beam.worstForShear(9, false));
        Same.answers("least with the last head but one", 59, EdgeForcesTest::longestWay, beam -> beam.worstForShear(29, false));
        Same.answers("greatest with the head 31", 31, EdgeForcesTest::longestWay, beam -> beam.worstForShear(0, true));
        BeamLines last = Texts.made("beam 10 most 9;support 0;support 9;axle 5 behind 30;");
        Check.same("greatest with the last head", 40, last.worstForShear(9, true));
        Check.same("nothing beyond the last support", 0, last.worstForShear(9, false));
        BeamLines up = Texts.made(BEYOND + "load 999 at 0;axle 1 behind 0;");
        Check.same("greatest of those below 0", 1, up.worstForShear(0, true));
        Check.same("least of those below 0", 0, up.worstForShear(0, false));
        BeamLines other = Texts.made(BEYOND + "load 999 at 10;axle 1 behind 0;");
        Check.same("least of those above 0", 0, other.worstForShear(9, false));
        Check.same("greatest of those above 0", 10, other.worstForShear(9, true));
    }

    private static void promise22DoesNotExist() {
        Check.under("promise 22, the field does not exist");
        for (int field : NO_FIELDS) {
            Same.noIndex("field " + field, Texts::busy, beam -> beam.worstForShear(field, true));
            Same.noIndex("field " + field, Texts::busy, beam -> beam.worstForShear(field, false));
        }
    }

    private static void promise23Heads() {
        Check.under("promise 23, the lowest of the worst heads, from 0 to the last one");
        Same.answers("greatest", 9, Texts::busy, beam -> beam.worstForMoment(9, true));
        Same.answers("least", 6, Texts::busy, beam -> beam.worstForMoment(4, false));
        Same.answers("least with several heads", 0, Texts::busy, beam -> beam.worstForMoment(9, false));
        Same.answers("first section", 0, Texts::busy, beam -> beam.worstForMoment(0, true));
        Same.answers("last section", 0, Texts::busy, beam -> beam.worstForMoment(12, false));
        Same.answers("one head alone", 0, EdgeForcesTest::withoutAxles, beam -> beam.worstForMoment(5, true));
        Same.answers("greatest with the last head but one", 59, EdgeForcesTest::longestWay, beam -> beam.worstForMoment(29, true));
        BeamLines last = Texts.made("beam 10 most 9;support 0;support 9;axle 5 behind 30;");
        Check.same("least with the last head", 40, last.worstForMoment(9, false));
        BeamLines up = Texts.made(BEYOND + "load 999 at 0;axle 1 behind 0;");
        Check.same("greatest of those below 0", 1, up.worstForMoment(1, true));
        Check.same("least of those below 0", 0, up.worstForMoment(1, false));
        BeamLines down = Texts.made(BEYOND + "load 999 at 5;axle 1 behind 0;");
        Check.same("least of those above 0, of two heads", 0, down.worstForMoment(5, false));
    }

    private static void promise23DoesNotExist() {
        Check.under("promise 23, the place does not exist");
        for (int place : NO_PLACES) {
            Same.noIndex("section " + place, Texts::busy, beam -> beam.worstForMoment(place, true));
            Same.noIndex("section " + place, Texts::busy, beam -> beam.worstForMoment(place, false));
        }
    }

    private static void promise24Leftmost() {
        Check.under("promise 24, of several sections the leftmost one, the moment without its sign");
        Same.answers("bridge", 4, Texts::busy, BeamLines::worstSection);
        Check.same("no moment at all", 0, new BeamLines().worstSection());
        Check.same("no moment by loads on the supports", 0, Texts.made(SPAN + "load 9 at 0;load 9 at 10;").worstSection());
        Check.same("all between two loads", 3, Texts.made(SPAN + "load 6 at 3;load 6 at 7;").worstSection());
        Check.same("above 0 and below 0 just as great", 2, Texts.made(BEYOND + "load 6 at 0;load 12 at 5;").worstSection());
        Check.same("below 0 greater", 8, Texts.made(BEYOND + "load 4 at 5;load 9 at 10;").worstSection());
        Check.same("above 0 greater", 5, Texts.made(BEYOND + "load 1 at 0;load 9 at 5;").worstSection());
        Check.same("the last place but one", 9, Texts.made("beam 10 most 9;support 0;support 9;load 9 at 10;").worstSection());
        Check.same("the second place", 1, Texts.made("beam 10 most 9;support 1;support 10;load 9 at 0;").worstSection());
    }

    private static void promise24Heads() {
        Check.under("promise 24, of all heads from 0 on");
        BeamLines two = Texts.made("beam 6 most 9;support 0;support 6;axle 7 behind 0;axle 7 behind 3;");
        Check.same("great at 4 with the head 4", 70, two.moment(4, 4));
        Check.same("just as great at 2 with a later head", 70, two.moment(2, 5));
        Check.same("the leftmost one", 2, two.worstSection());
        String short3 = "beam 3 most 9;support 1;support 2;";
        Check.same("the head 0 counts", 1, Texts.made(short3 + "load 1 at 0;axle 2 behind 0;").worstSection());
        Check.same("the last head counts", 2, Texts.made(short3 + "load 1 at 3;axle 1 behind 0;").worstSection());
        BeamLines held = Texts.made("beam 8 most 9;support 3;support 5;load 7 at 4;axle 1 behind 0;axle 1 behind 3;");
        Check.same("greatest without the train", 7, held.moment(4, -1));
        Check.same("with heads alone as great at 3 as at 4", -6, held.moment(3, 0));
        Check.same("NONE does not count", 3, held.worstSection());
    }

    // ---- dangers

    private static void promise25Reasons() {
        Check.under("promise 25, 0 if it is safe, otherwise the reason");
        Same.answers("safe", 0, Texts::busy, beam -> beam.danger(4));
        Same.answers("1", 1, Texts::busy, beam -> beam.danger(5));
        Check.same("2", 2, Texts.made(SPAN.replace("10;", "10 bears 4;") + "load 9 at 5;").danger(0));
        Check.same("3", 3, Texts.made(SPAN + "load 41 at 5;").danger(0));
        Check.same("just not 3", 0, Texts.made(SPAN + "load 40 at 5;").danger(0));
        Check.same("the greatest MOST", 0, Texts.made("beam 30 most 999999;support 0;support 30;" + "load 999 at 15;".repeat(8)).danger(0));
        Check.same("the greatest bearing", 0, Texts.made("beam 2 most 9;support 0 bears 99999;support 2;" + "load 999 at 0;".repeat(8)).danger(0));
    }

    private static void promise25Heads() {
        Check.under("promise 25, the head: 0 to the last head, NONE without the train");
        Same.answers("NONE", 0, Texts::busy, beam -> beam.danger(-1));
        Same.answers("0", 0, Texts::busy, beam -> beam.danger(0));
        Same.answers("last", 0, Texts::busy, beam -> beam.danger(15));
        for (int head : NO_HEADS) {
            Same.badArgument("head " + head, Texts::busy, beam -> beam.danger(head));
        }
        Same.answers("0 without axles", 0, EdgeForcesTest::withoutAxles, beam -> beam.danger(0));
        Same.badArgument("1 without axles", EdgeForcesTest::withoutAxles, beam -> beam.danger(1));
        Same.badArgument("61", EdgeForcesTest::longestWay, beam -> beam.danger(61));
        BeamLines last = Texts.made("beam 10 most 99;support 0;support 9;axle 5 behind 30;");
        Check.same("the last head", 1, last.danger(40));
        Check.same("the last head but one", 0, last.danger(39));
        BeamLines first = Texts.made("beam 10 most 99;support 1;support 10;axle 5 behind 0;");
        Check.same("the head 0", 1, first.danger(0));
        Check.same("without the train", 0, first.danger(-1));
        Check.same("the head 1", 0, first.danger(1));
    }

    private static void promise26First() {
        Check.under("promise 26, the first head with which it is not safe");
        Same.answers("between", 5, Texts::busy, BeamLines::firstDanger);
        Check.same("0", 0, Texts.made("beam 10 most 99;support 1;support 10;axle 5 behind 0;").firstDanger());
        Check.same("the last head", 40, Texts.made("beam 10 most 99;support 0;support 9;axle 5 behind 30;").firstDanger());
        Check.same("the first of two ends", 3, Texts.made(BEYOND + "axle 5 behind 3;").firstDanger());
        Check.same("without axles", 0, Texts.made(BEYOND + "load 5 at 0;").firstDanger());
    }

    private static void promise26None() {
        Check.under("promise 26, NONE if it is safe with all");
        Check.same("without axles", -1, new BeamLines().firstDanger());
        Check.same("with a train", -1, Texts.made(SPAN + "axle 40 behind 0;").firstDanger());
        Check.same("one weight more", 5, Texts.made(SPAN + "axle 41 behind 0;").firstDanger());
        BeamLines held = Texts.made("beam 8 most 49;support 3;support 5;load 100 at 4;axle 2 behind 0;axle 2 behind 3;");
        Check.same("not safe without the train", 3, held.danger(-1));
        Check.same("but with all heads", -1, held.firstDanger());
    }

    private static void promise27Bits() {
        Check.under("promise 27, bit k for support k");
        Check.same("none", 0, new BeamLines().lifting());
        Check.same("bit 0", 1, Texts.busy().lifting());
        Check.same("bit 1", 2, Texts.made(BEYOND + "load 1 at 0;").lifting());
        Check.same("bits 2 and 4", 20, Texts.made(FINEST + "load 1 at 7;").lifting());
        Check.same("just none", 0, Texts.made(BEYOND + "load 1 at 1;load 1 at 3;").lifting());
        Check.same("just one", 2, Texts.made(BEYOND + "load 1 at 1;").lifting());
    }

    private static void promise27SomeHead() {
        Check.under("promise 27, with some head of the train");
        Same.answers("between", 1, Texts::busy, BeamLines::lifting);
        Check.same("the first and the last head", 3, Texts.made(BEYOND + "axle 1 behind 0;").lifting());
        Check.same("the last head alone", 1, Texts.made("beam 10 most 9;support 0;support 9;axle 5 behind 30;").lifting());
        Check.same("the head 0 alone", 2, Texts.made("beam 10 most 9;support 1;support 10;axle 5 behind 0;").lifting());
        BeamLines held = Texts.made(HELD);
        Check.same("without the train the left support lifts", -1, held.reaction(0, -1));
        Check.same("but not with any head", 2, held.lifting());
    }

    // ---- parts of all

    private static void promise28NoWeights() {
        Check.under("promise 28, 0 if there are no loads and no axles on the beam with that head");
        Check.sameDouble("nothing at all", 0.0, new BeamLines().share(0, 0));
        Check.sameDouble("nothing at all without the train", 0.0, new BeamLines().share(0, -1));
        BeamLines beam = Texts.made(SPAN + "axle 5 behind 20;");
        Check.sameDouble("just not on the beam", 0.0, beam.share(0, 19));
        Check.sameDouble("just on the beam", 1.0, beam.share(0, 20));
        Check.sameDouble("still on the beam", 1.0, beam.share(1, 30));
        Check.sameDouble("without the train", 0.0, beam.share(0, -1));
        BeamLines two = Texts.made(SPAN + "axle 5 behind 0;axle 5 behind 20;");
        Check.sameDouble("the first one still on the beam", 1.0, two.share(1, 10));
        Check.sameDouble("none on the beam, between", 0.0, two.share(1, 11));
    }

    private static void promise28WeightsOnTheBeam() {
        Check.under("promise 28, the weights of all loads and of the axles on the beam together");
        BeamLines beam = Texts.made("beam 3 most 9;support 0;support 3;load 1 at 1;load 1 at 2;axle 1 behind 0;axle 4 behind 1;");
        Check.sameDouble("loads alone", 3.0 / 6.0, beam.share(0, -1));
        Check.sameDouble("one axle on the beam", 6.0 / 9.0, beam.share(0, 0));
        Check.sameDouble("both axles on the beam", 17.0 / 21.0, beam.share(0, 1));
        Check.sameDouble("the other one alone on the beam", 3.0 / 18.0, beam.share(0, 4));
        Check.sameDouble("below 0", -1.0 / 6.0, Texts.made(BEYOND + "load 1 at 1;").share(1, 0));
        Check.sameDouble("more than all", 7.0 / 6.0, Texts.made(BEYOND + "load 1 at 1;").share(0, 0));
        Check.sameDouble("nothing of it", 0.0, Texts.made(BEYOND + "load 1 at 2;").share(1, 0));
        BeamLines heavy = Texts.made(FINEST + "load 999 at 7;".repeat(8) + "axle 999 behind 0;".repeat(6));
        Check.sameDouble("the greatest weights", (13986.0 * 2401) / (2058.0 * 13986), heavy.share(1, 7));
    }

    private static void promise28DoesNotExist() {
        Check.under("promise 28, the support does not exist, or the head is out of range");
        for (int support : NO_SUPPORTS) {
            Same.noIndex("support " + support, Texts::busy, beam -> (long) beam.share(support, 0));
        }
        for (int head : NO_HEADS) {
            Same.badArgument("head " + head, Texts::busy, beam -> (long) beam.share(2, head));
        }
        Same.noIndex("both", Texts::busy, beam -> (long) beam.share(3, 16));
        Same.badArgument("1 without axles", EdgeForcesTest::withoutAxles, beam -> (long) beam.share(0, 1));
        Same.badArgument("61", EdgeForcesTest::longestWay, beam -> (long) beam.share(0, 61));
        Same.answers("last support, last head", 0, Texts::busy, beam -> (long) beam.share(2, 15));
    }

    private static void promise29LeastAndGreatest() {
        Check.under("promise 29, the greatest moment without its sign by MOST");
        Check.sameFloat("nothing", 0f, new BeamLines().used());
        Check.sameFloat("just all", 1f, Texts.made(SPAN + "load 40 at 5;").used());
        Check.sameFloat("below 0", 180f / 600f, Texts.made(BEYOND + "load 15 at 10;").used());
        Check.sameFloat("a MOST of 1", 7f, Texts.made("beam 3 most 1;support 1;support 2;load 7 at 3;").used());
        Check.sameFloat("a MOST of 999999", 7f / 999999f, Texts.made("beam 3 most 999999;support 1;support 2;load 7 at 3;").used());
    }

    private static void promise29Heads() {
        Check.under("promise 29, of all places and heads");
        Check.sameFloat("with the head 0", 60f / 600f, Texts.made(BEYOND + "axle 5 behind 0;load 9 at 8;").used());
        Check.sameFloat("with the last head", 10f * 9 / 900f, Texts.made("beam 10 most 100;support 0;support 9;axle 5 behind 30;load 5 at 10;").used());
        BeamLines held = Texts.made("beam 8 most 7;support 3;support 5;load 100 at 4;axle 1 behind 0;axle 1 behind 3;");
        Check.same("without the train", 100, held.moment(4, -1));
        Check.sameFloat("heads alone", 99f / 14f, held.used());
    }

    private static void promise29ConvertedToFloat() {
        Check.under("promise 29, both converted to float before they are divided");
        BeamLines beam = Texts.made("beam 30 most 999996;support 0;support 8;support 18;support 24;support 30;hinge 7;hinge 13;hinge 19;"
                + "load 999 at 13;".repeat(8) + "axle 999 behind 0;".repeat(5) + "axle 998 behind 0;");
        // All weights stand at 13, and each one bends the beam at 24 by 25.
        Check.same("unit", 210, beam.unit());
        Check.same("influence", 5250, beam.momentLine(24, 13));
        Check.same("moment", 5250 * 13985, beam.moment(24, 13));
        // 73421250 and 999996 * 210 are no floats; with doubles, or divided twice, it would be 0.3496264.
        Check.sameFloat("used", 0.34962636f, beam.used());
    }
}
