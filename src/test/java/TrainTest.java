/** Promises 18 to 29: the bridge with its loads and its train, reckoned by hand, in twelfths. */
final class TrainTest {
    public static void main(String[] args) {
        BeamLines beam = Texts.made(Texts.BRIDGE);
        promise18Reaction(beam);
        promise19Shear(beam);
        promise20Moment(beam);
        promise21WorstForReaction(beam);
        promise22WorstForShear(beam);
        promise23WorstForMoment(beam);
        promise24WorstSection(beam);
        promise25Danger();
        promise26FirstDanger();
        promise27Lifting();
        promise28Share(beam);
        promise29Used(beam);
        Check.end();
    }

    private static void promise18Reaction(BeamLines beam) {
        int[][] due = {{-1, 0, 72, 24}, {0, 60, 72, 24}, {3, 39, 117, 24}, {5, -3, 159, 24}, {6, -24, 180, 24},
            {9, -27, 153, 54}, {12, -6, 90, 96}, {13, -4, 84, 40}, {15, 0, 72, 48}};
        for (int[] row : due) {
            for (int support = 0; support < 3; support++) {
                Check.same("reaction(" + support + ", " + row[0] + ")", row[support + 1], beam.reaction(support, row[0]));
            }
        }
        Check.noIndex("support 3", () -> beam.reaction(3, 0));
        Check.noIndex("support -1, the number first", () -> beam.reaction(-1, 99));
        Check.badArgument("head 16", () -> beam.reaction(0, 16));
        Check.badArgument("head -2", () -> beam.reaction(0, -2));
        Check.same("without axles", 0, new BeamLines().reaction(0, 0));
        Check.badArgument("head 1 without axles", () -> new BeamLines().reaction(0, 1));
    }

    private static void promise19Shear(BeamLines beam) {
        int[][] due = {{0, -1, 0}, {2, -1, -36}, {3, -1, -36}, {4, -1, 36}, {6, -1, 24}, {8, -1, 24}, {9, -1, -24}, {11, -1, -24},
            {0, 0, 0}, {0, 3, 15}, {8, 8, 4}, {8, 9, 54}};
        for (int[] row : due) {
            Check.same("shear(" + row[0] + ", " + row[1] + ")", row[2], beam.shear(row[0], row[1]));
        }
        Check.noIndex("field 12", () -> beam.shear(12, 0));
        Check.noIndex("field -1, the field first", () -> beam.shear(-1, -2));
        Check.badArgument("head 16", () -> beam.shear(0, 16));
        Check.badArgument("head -2", () -> beam.shear(0, -2));
    }

    private static void promise20Moment(BeamLines beam) {
        int[][] due = {{0, -1, 0}, {2, -1, 0}, {4, -1, -72}, {6, -1, 0}, {9, -1, 72}, {12, -1, 0}, {2, 3, 30}, {3, 3, 9}, {4, 3, -72},
            {4, 6, -192}, {3, 6, -108}, {9, 9, 162}, {9, 10, 144}, {4, 9, -180}};
        for (int[] row : due) {
            Check.same("moment(" + row[0] + ", " + row[1] + ")", row[2], beam.moment(row[0], row[1]));
        }
        Check.noIndex("section 13", () -> beam.moment(13, 0));
        Check.noIndex("section -1, the section first", () -> beam.moment(-1, -2));
        Check.badArgument("head 16", () -> beam.moment(0, 16));
        Check.badArgument("head -2", () -> beam.moment(0, -2));
    }

    private static void promise21WorstForReaction(BeamLines beam) {
        int[][] due = {{0, 0, 9}, {1, 6, 0}, {2, 12, 0}};
        for (int[] row : due) {
            Check.same("greatest reaction " + row[0], row[1], beam.worstForReaction(row[0], true));
            Check.same("least reaction " + row[0], row[2], beam.worstForReaction(row[0], false));
        }
        BeamLines late = Texts.made("beam 10 most 9;support 0;support 10;axle 5 behind 8;");
        Check.same("greatest with the last head but ten", 8, late.worstForReaction(0, true));
        Check.same("greatest with the last head", 18, late.worstForReaction(1, true));
        Check.noIndex("support 3", () -> beam.worstForReaction(3, true));
        Check.noIndex("support -1", () -> beam.worstForReaction(-1, false));
    }

    private static void promise22WorstForShear(BeamLines beam) {
        Check.same("greatest shear", 9, beam.worstForShear(8, true));
        Check.same("least shear", 8, beam.worstForShear(8, false));
        Check.same("nothing moves", 0, new BeamLines().worstForShear(3, false));
        Check.noIndex("field 12", () -> beam.worstForShear(12, true));
        Check.noIndex("field -1", () -> beam.worstForShear(-1, false));
        Check.same("the last field", 11, beam.worstForShear(11, false));
    }

    private static void promise23WorstForMoment(BeamLines beam) {
        Check.same("greatest moment 4", 0, beam.worstForMoment(4, true));
        Check.same("least moment 4", 6, beam.worstForMoment(4, false));
        Check.same("greatest moment 9", 9, beam.worstForMoment(9, true));
        Check.same("least moment 9", 0, beam.worstForMoment(9, false));
        Check.same("moment at the end", 0, beam.worstForMoment(12, true));
        Check.noIndex("section 13", () -> beam.worstForMoment(13, true));
        Check.noIndex("section -1", () -> beam.worstForMoment(-1, false));
    }

    private static void promise24WorstSection(BeamLines beam) {
        Check.same("bridge", 4, beam.worstSection());
        Check.same("nothing presses", 0, new BeamLines().worstSection());
        BeamLines flat = Texts.made("beam 10 most 9;support 0;support 10;load 6 at 3;load 6 at 7;");
        Check.same("the leftmost of several", 3, flat.worstSection());
        BeamLines even = Texts.made("beam 11 most 9;support 5;support 6;axle 4 behind 0;");
        Check.same("two ends as far beyond", 5, even.worstSection());
        BeamLines ends = Texts.made("beam 10 most 9;support 2;support 8;axle 10 behind 0;");
        Check.same("as much beyond a support", 2, ends.worstSection());
        BeamLines late = Texts.made("beam 11 most 9;support 5;support 6;load 4 at 11;axle 4 behind 11;");
        Check.same("with the last head", 6, late.worstSection());
        BeamLines later = Texts.made("beam 10 most 9;support 0;support 10;axle 4 behind 0;axle 4 behind 9;");
        Check.same("middle", 5, later.worstSection());
    }

    private static void promise25Danger() {
        BeamLines beam = Texts.made(Texts.BRIDGE);
        Check.same("safe with head 0", 0, beam.danger(0));
        Check.same("a reaction of 0 does not lift", 0, beam.danger(-1));
        Check.same("lifts", 1, beam.danger(5));
        beam.setBearing(0, 5);
        Check.same("bears just as much", 0, beam.danger(0));
        beam.setBearing(0, 4);
        Check.same("bears too much", 2, beam.danger(0));
        Check.same("not with the next head", 0, beam.danger(1));
        beam.setMost(6);
        Check.same("bends just as much", 0, beam.danger(3));
        beam.setMost(5);
        Check.same("bends too much", 3, beam.danger(3));
        Check.same("bends too much without the train", 3, beam.danger(-1));
        Check.same("2 before 3", 2, beam.danger(0));
        beam.setBearing(1, 1);
        Check.same("1 before 2 and 3", 1, beam.danger(6));
        Check.badArgument("head 16", () -> beam.danger(16));
        Check.badArgument("head -2", () -> beam.danger(-2));
        Check.same("last head", 2, beam.danger(15));
    }

    private static void promise26FirstDanger() {
        BeamLines beam = Texts.made(Texts.BRIDGE);
        Check.same("lifts first", 5, beam.firstDanger());
        beam.setBearing(0, 4);
        Check.same("bears too much first", 0, beam.firstDanger());
        Check.same("safe with all", -1, new BeamLines().firstDanger());
        Check.same("safe with none", 0, Texts.made("beam 9 most 9;support 4;support 6;load 1 at 3;axle 1 behind 9;").firstDanger());
        BeamLines late = Texts.made("beam 10 most 9999;support 0;support 10 bears 4;axle 5 behind 30;");
        Check.same("late", 39, late.firstDanger());
        BeamLines last = Texts.made("beam 10 most 9999;support 0;support 9 bears 5;axle 5 behind 30;");
        Check.same("lifts with the last head", 40, last.firstDanger());
        BeamLines held = Texts.made("beam 8 most 49;support 3;support 5;load 100 at 4;axle 2 behind 0;axle 2 behind 3;");
        Check.same("not safe without the train", 3, held.danger(-1));
        Check.same("but safe with all heads", -1, held.firstDanger());
    }

    private static void promise27Lifting() {
        Check.same("bridge", 1, Texts.made(Texts.BRIDGE).lifting());
        Check.same("none", 0, new BeamLines().lifting());
        Check.same("both ends", 3, Texts.made("beam 10 most 9;support 4;support 6;axle 1 behind 30;").lifting());
        Check.same("by a load", 2, Texts.made("beam 10 most 9;support 4;support 6;load 1 at 3;").lifting());
        Check.same("the last head", 1, Texts.made("beam 10 most 9;support 0;support 9;axle 5 behind 30;").lifting());
        // The load lifts the left support, but with each head an axle holds it down.
        BeamLines held = Texts.made("beam 16 most 9;support 6;support 8;support 10;hinge 9;load 1 at 9;axle 1 behind 0;axle 1 behind 3;");
        Check.same("without the train", -1, held.reaction(0, -1));
        Check.same("heads alone", 2, held.lifting());
    }

    private static void promise28Share(BeamLines beam) {
        Check.sameDouble("share(0, 0)", 60.0 / 156.0, beam.share(0, 0));
        Check.sameDouble("share(1, 6)", 1.0, beam.share(1, 6));
        Check.sameDouble("share(0, 6)", -24.0 / 180.0, beam.share(0, 6));
        Check.sameDouble("share(2, -1)", 0.25, beam.share(2, -1));
        Check.sameDouble("share(2, 13)", 40.0 / 120.0, beam.share(2, 13));
        Check.sameDouble("share(0, -1)", 0.0, beam.share(0, -1));
        Check.sameDouble("nothing presses", 0.0, new BeamLines().share(1, 0));
        BeamLines far = Texts.made("beam 10 most 9;support 0;support 10;axle 5 behind 20;");
        Check.sameDouble("the axle is not on the beam yet", 0.0, far.share(0, 19));
        Check.sameDouble("the axle is on the beam", 1.0, far.share(0, 20));
        Check.noIndex("support 3", () -> beam.share(3, 0));
        Check.noIndex("support -1, the number first", () -> beam.share(-1, 16));
        Check.badArgument("head 16", () -> beam.share(0, 16));
        Check.badArgument("head -2", () -> beam.share(0, -2));
    }

    private static void promise29Used(BeamLines beam) {
        Check.sameFloat("bridge", 192f / 720f, beam.used());
        Check.sameFloat("nothing presses", 0f, new BeamLines().used());
        Check.sameFloat("by 1", 5f, Texts.made("beam 3 most 1;support 1;support 2;load 5 at 0;").used());
        BeamLines full = Texts.made("beam 10 most 5;support 0;support 10;load 2 at 5;");
        Check.sameFloat("just full", 1f, full.used());
        full.setMost(999999);
        Check.sameFloat("converted once each", 50f / 9999990f, full.used());
        // With each head an axle beyond the supports takes off some of the moment that there is without the train.
        BeamLines held = Texts.made("beam 8 most 7;support 3;support 5;load 100 at 4;axle 1 behind 0;axle 1 behind 3;");
        Check.same("without the train", 100, held.moment(4, -1));
        Check.sameFloat("heads alone", 99f / 14f, held.used());
    }
}
