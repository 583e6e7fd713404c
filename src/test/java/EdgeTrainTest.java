/** Terms 3: loads, axles that are on the beam or not, heads, the worst heads and the reasons for danger. */
final class EdgeTrainTest {
    private static final String SPAN = "beam 10 most 100;support 0;support 10;";
    private static final String BOTH_ENDS_BEYOND = "beam 10 most 100;support 2;support 8;";

    public static void main(String[] args) {
        terms3HowManyLoads();
        terms3LoadsInTheOrderTheyCame();
        terms3WeightAndPlaceOfLoads();
        terms3SeveralLoadsAtOnePlace();
        terms3HowManyAxles();
        terms3AxlesInTheOrderTheyCame();
        terms3WeightOfAxlesAndHowFarBehind();
        terms3AxlesNotOnTheBeam();
        terms3AllAxlesTogether();
        terms3LastHead();
        terms3HeadWithoutAxles();
        terms3LowestWorstHead();
        terms3WorstHeadOfHeadsAlone();
        terms3Lifts();
        terms3BearsTooMuch();
        terms3BendsTooMuch();
        terms3FirstReason();
        terms3Most();
        Check.end();
    }

    private static void tells(String due, String text) {
        Check.sameText(text, due, Texts.told(text));
    }

    private static void terms3HowManyLoads() {
        Check.under("terms 3, at most 8 loads");
        Check.same("none", 0, Texts.made(SPAN).count(3));
        Check.same("eight", 8, Texts.made(SPAN + "load 1 at 2;".repeat(8)).count(3));
        tells("-5 at " + (SPAN.length() + 96), SPAN + "load 1 at 2;".repeat(9));
        BeamLines beam = Texts.made(SPAN + "load 1 at 2;".repeat(7));
        Check.same("the eighth", 7, beam.addLoad(1, 2));
        Check.same("the ninth", -13, beam.addLoad(1, 2));
    }

    private static void terms3LoadsInTheOrderTheyCame() {
        Check.under("terms 3, loads numbered in the order in which they came");
        BeamLines beam = Texts.made(SPAN + "load 5 at 9;load 7 at 2;load 5 at 4;");
        Check.same("one more", 3, beam.addLoad(6, 0));
        int[][] due = {{5, 9}, {7, 2}, {5, 4}, {6, 0}};
        for (int number = 0; number < due.length; number++) {
            Check.same("weight " + number, due[number][0], beam.weight(number, 0));
            Check.same("place " + number, due[number][1], beam.weight(number, 1));
        }
    }

    private static void terms3WeightAndPlaceOfLoads() {
        Check.under("terms 3, a weight of 1 to 999 and a place");
        int at = SPAN.length();
        tells("-3 at " + (at + 5), SPAN + "load 0 at 5;");
        tells("2 at -1", SPAN + "load 1 at 5;");
        tells("2 at -1", SPAN + "load 999 at 5;");
        tells("-3 at " + (at + 5), SPAN + "load 1000 at 5;");
        tells("2 at -1", SPAN + "load 1 at 0;");
        tells("2 at -1", SPAN + "load 1 at 10;");
        tells("-3 at " + (at + 10), SPAN + "load 1 at 11;");
    }

    private static void terms3SeveralLoadsAtOnePlace() {
        Check.under("terms 3, several loads may lie at one place");
        BeamLines beam = Texts.made(SPAN + "load 2 at 3;load 5 at 3;load 2 at 3;load 1 at 0;load 1 at 0;");
        Check.same("how many", 5, beam.count(3));
        Check.same("left reaction", 7 * 9 + 20, beam.reaction(0, 0));
        Check.same("right reaction", 3 * 9, beam.reaction(1, 0));
    }

    private static void terms3HowManyAxles() {
        Check.under("terms 3, at most 6 axles");
        Check.same("none", 0, Texts.made(SPAN).count(4));
        Check.same("six", 6, Texts.made(SPAN + "axle 1 behind 2;".repeat(6)).count(4));
        tells("-5 at " + (SPAN.length() + 96), SPAN + "axle 1 behind 2;".repeat(7));
        BeamLines beam = Texts.made(SPAN + "axle 1 behind 2;".repeat(5));
        Check.same("the sixth", 5, beam.addAxle(1, 2));
        Check.same("the seventh", -14, beam.addAxle(1, 2));
    }

    private static void terms3AxlesInTheOrderTheyCame() {
        Check.under("terms 3, axles numbered in the order in which they came");
        BeamLines beam = Texts.made(SPAN + "axle 5 behind 9;axle 7 behind 2;axle 5 behind 4;");
        Check.same("one more", 3, beam.addAxle(6, 0));
        int[][] due = {{5, 9}, {7, 2}, {5, 4}, {6, 0}};
        for (int number = 0; number < due.length; number++) {
            Check.same("weight " + number, due[number][0], beam.axle(number, 0));
            Check.same("behind " + number, due[number][1], beam.axle(number, 1));
        }
    }

    private static void terms3WeightOfAxlesAndHowFarBehind() {
        Check.under("terms 3, a weight of 1 to 999 and 0 to 30 behind");
        int at = SPAN.length();
        tells("-3 at " + (at + 5), SPAN + "axle 0 behind 5;");
        tells("2 at -1", SPAN + "axle 1 behind 0;");
        tells("2 at -1", SPAN + "axle 999 behind 30;");
        tells("-3 at " + (at + 5), SPAN + "axle 1000 behind 5;");
        tells("-3 at " + (at + 14), SPAN + "axle 1 behind 31;");
    }

    private static void terms3AxlesNotOnTheBeam() {
        Check.under("terms 3, axles that are not on a place of the beam press nowhere");
        BeamLines beam = Texts.made("beam 4 most 9;support 0;support 4;axle 4 behind 3;axle 8 behind 0;");
        // With each head the reactions, in quarters: of the axle in front, which leaves the beam behind the head 4, and of the one behind.
        long[][] due = {{32, 0}, {24, 8}, {16, 16}, {8 + 16, 24}, {12, 32 + 4}, {8, 8}, {4, 12}, {0, 16}};
        for (int head = 0; head < due.length; head++) {
            Check.same("left with the head " + head, due[head][0], beam.reaction(0, head));
            Check.same("right with the head " + head, due[head][1], beam.reaction(1, head));
        }
        Check.same("the last head", 7, beam.count(8));
        Check.same("without the train", 0, beam.reaction(0, -1));
        BeamLines far = Texts.made("beam 30 most 9;support 0;support 30;axle 1 behind 30;");
        Check.same("just not on the beam yet", 0, far.reaction(0, 29));
        Check.same("just on the beam", 30, far.reaction(0, 30));
        Check.same("still on the beam", 30, far.reaction(1, 60));
    }

    private static void terms3AllAxlesTogether() {
        Check.under("terms 3, reckoned with all loads that lie and all axles on the beam");
        BeamLines beam = Texts.made(SPAN + "load 3 at 10;load 2 at 0;axle 5 behind 2;axle 5 behind 2;axle 7 behind 4;axle 9 behind 9;");
        Check.same("without the train", 20, beam.reaction(0, -1));
        Check.same("none on the beam", 20, beam.reaction(0, 1));
        Check.same("two at one place", 120, beam.reaction(0, 2));
        Check.same("three", 20 + 80 + 70, beam.reaction(0, 4));
        Check.same("all", 20 + 30 + 35 + 90, beam.reaction(0, 9));
        Check.same("the loads on the right", 30 + 70 + 35, beam.reaction(1, 9));
    }

    private static void terms3LastHead() {
        Check.under("terms 3, the head goes up to the length plus how far the last axle is behind");
        BeamLines beam = Texts.made(SPAN + "axle 1 behind 4;axle 1 behind 9;axle 1 behind 0;");
        Check.same("by the greatest number", 19, beam.count(8));
        Check.same("with the last head the last axle stands at the end", 10, beam.reaction(1, 19));
        Check.badArgument("one more", () -> beam.reaction(1, 20));
        Check.same("the longest way", 60, Texts.made("beam 30 most 9;support 0;support 30;axle 1 behind 30;").count(8));
        Check.same("the shortest way", 2, Texts.made("beam 2 most 9;support 0;support 2;axle 1 behind 0;").count(8));
    }

    private static void terms3HeadWithoutAxles() {
        Check.under("terms 3, without axles the head goes from 0 to 0");
        BeamLines beam = Texts.made(SPAN + "load 1 at 5;");
        Check.same("the last head", 0, beam.count(8));
        Check.same("the head 0", 5, beam.reaction(0, 0));
        Check.badArgument("the head 1", () -> beam.reaction(0, 1));
        Check.same("the worst head", 0, beam.worstForReaction(0, true));
    }

    private static void terms3LowestWorstHead() {
        Check.under("terms 3, of several worst heads the lowest one");
        BeamLines beam = Texts.made(SPAN + "axle 1 behind 0;axle 1 behind 2;");
        Check.same("greatest with the heads 5 to 7", 40, beam.moment(5, 5));
        Check.same("just as great", 40, beam.moment(5, 7));
        Check.same("the lowest of them", 5, beam.worstForMoment(5, true));
        Check.same("least with the heads 0 and 12", 0, beam.worstForMoment(5, false));
        BeamLines late = Texts.made(BOTH_ENDS_BEYOND + "axle 1 behind 2;");
        Check.same("least with the heads 2 and 12", -6, late.moment(5, 2));
        Check.same("just as little", -6, late.moment(5, 12));
        Check.same("the lowest of them", 2, late.worstForMoment(5, false));
        Check.same("greatest reaction with one head", 12, late.worstForReaction(1, true));
        // The axle behind comes where the one in front was, after that one has left the beam.
        BeamLines far = Texts.made(SPAN + "axle 1 behind 0;axle 1 behind 12;");
        Check.same("greatest shear with the head 6", 4, far.shear(5, 6));
        Check.same("just as great", 4, far.shear(5, 18));
        Check.same("the lowest of them", 6, far.worstForShear(5, true));
        Check.same("least shear with the head 5", -5, far.shear(5, 5));
        Check.same("just as little", -5, far.shear(5, 17));
        Check.same("the lowest of them", 5, far.worstForShear(5, false));
    }

    private static void terms3WorstHeadOfHeadsAlone() {
        Check.under("terms 3, the worst head is one from 0 on");
        // With each head an axle holds down what the load lifts.
        BeamLines beam = Texts.made("beam 16 most 9;support 6;support 8;support 10;hinge 9;load 1 at 9;axle 1 behind 0;axle 1 behind 3;");
        Check.same("least without the train", -1, beam.reaction(0, -1));
        Check.same("not so little with any head", 0, beam.reaction(0, beam.worstForReaction(0, false)) < 0 ? 1 : 0);
        BeamLines up = Texts.made(BOTH_ENDS_BEYOND + "load 999 at 0;axle 1 behind 0;");
        Check.same("greatest of those below 0", 10, up.worstForReaction(1, true));
        Check.same("least of those above 0", 10, up.worstForReaction(0, false));
    }

    private static void terms3Lifts() {
        Check.under("terms 3, reason 1: a reaction below 0");
        Check.same("just below", 1, Texts.made(BOTH_ENDS_BEYOND + "load 1 at 1;").danger(0));
        Check.same("just 0", 0, Texts.made(BOTH_ENDS_BEYOND + "load 1 at 1;load 1 at 3;").danger(0));
        Check.same("the other support", 1, Texts.made(BOTH_ENDS_BEYOND + "load 1 at 9;").danger(0));
    }

    private static void terms3BearsTooMuch() {
        Check.under("terms 3, reason 2: a reaction of more than the bearing");
        String load = "load 3 at 5;";
        Check.same("a half below", 0, Texts.made("beam 10 most 100;support 0 bears 2;support 10;" + load).danger(0));
        Check.same("a half above", 2, Texts.made("beam 10 most 100;support 0 bears 1;support 10;" + load).danger(0));
        Check.same("a half above on the right", 2, Texts.made("beam 10 most 100;support 0;support 10 bears 1;" + load).danger(0));
        Check.same("just as much", 0, Texts.made("beam 10 most 100;support 0 bears 3;support 10 bears 3;load 6 at 5;").danger(0));
        Check.same("a tenth more", 2, Texts.made("beam 10 most 100;support 0 bears 3;support 10;load 6 at 5;load 1 at 9;").danger(0));
        Check.same("no bearing", 0, Texts.made(SPAN + "load 999 at 0;load 999 at 10;").danger(0));
    }

    private static void terms3BendsTooMuch() {
        Check.under("terms 3, reason 3: a moment without its sign of more than MOST");
        String span = ";support 0;support 10;";
        Check.same("just as much", 0, Texts.made("beam 10 most 10" + span + "load 4 at 5;").danger(0));
        Check.same("one more", 3, Texts.made("beam 10 most 9" + span + "load 4 at 5;").danger(0));
        Check.same("a half more", 3, Texts.made("beam 10 most 10" + span + "load 4 at 5;load 1 at 1;").danger(0));
        Check.same("a tenth more", 3, Texts.made("beam 10 most 2" + span + "load 1 at 3;").danger(0));
        String beyond = ";support 2;support 8;load 99 at 8;load 99 at 2;";
        Check.same("just as much below 0", 0, Texts.made("beam 10 most 10" + beyond + "load 5 at 0;").danger(0));
        Check.same("more below 0", 3, Texts.made("beam 10 most 9" + beyond + "load 5 at 0;").danger(0));
        Check.same("more below 0 on the right", 3, Texts.made("beam 10 most 9" + beyond + "load 5 at 10;").danger(0));
        // Here the moment is too great at one place alone, the last one but one and the second one.
        Check.same("last but one", 3, Texts.made("beam 9 most 7;support 0;support 9;load 9 at 8;").danger(0));
        Check.same("second", 3, Texts.made("beam 9 most 7;support 0;support 9;load 9 at 1;").danger(0));
        Check.same("second, just as much", 0, Texts.made("beam 9 most 8;support 0;support 9;load 9 at 1;").danger(0));
    }

    private static void terms3FirstReason() {
        Check.under("terms 3, the first reason that applies is told");
        String load = "load 9 at 0;load 1 at 9;";
        Check.same("1, 2 and 3", 1, Texts.made("beam 10 most 1;support 2 bears 1;support 8;" + load).danger(0));
        Check.same("1 and 2", 1, Texts.made("beam 10 most 100;support 2 bears 1;support 8;" + load).danger(0));
        Check.same("1 and 3", 1, Texts.made("beam 10 most 1;support 2;support 8;" + load).danger(0));
        Check.same("2 and 3", 2, Texts.made("beam 10 most 1;support 2 bears 1;support 8;load 9 at 5;").danger(0));
        Check.same("3 alone", 3, Texts.made("beam 10 most 1;support 2;support 8;load 9 at 5;").danger(0));
        Check.same("2 of the last support, 3", 2, Texts.made("beam 10 most 1;support 2;support 8 bears 1;load 9 at 5;").danger(0));
        Check.same("1 of the last support, 2", 1, Texts.made("beam 10 most 1;support 2 bears 1;support 8;load 9 at 0;").danger(0));
    }

    private static void terms3Most() {
        Check.under("terms 3, MOST from 1 to 999999");
        tells("-3 at 13", "beam 10 most 0;support 0;support 10;");
        tells("2 at -1", "beam 10 most 1;support 0;support 10;");
        tells("2 at -1", "beam 10 most 999999;support 0;support 10;");
        tells("-3 at 13", "beam 10 most 1000000;support 0;support 10;");
    }
}
