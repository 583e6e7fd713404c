/** Promises 12 to 17: the influence lines of the bridge, reckoned by hand, in twelfths. */
final class InfluenceTest {
    private static final long[][] REACTIONS = {
        {12, 9, 6, 3, 0, -3, -6, -5, -4, -3, -2, -1, 0},
        {0, 3, 6, 9, 12, 15, 18, 15, 12, 9, 6, 3, 0},
        {0, 0, 0, 0, 0, 0, 0, 2, 4, 6, 8, 10, 12}};

    private static final String OVERHANG = "beam 10 most 1;support 2;support 8;";

    public static void main(String[] args) {
        BeamLines beam = Texts.made(Texts.BRIDGE);
        promise12ReactionLine(beam);
        promise13ShearLine(beam);
        promise14MomentLine(beam);
        promise15Area(beam);
        promise16Still(beam);
        promise17Gap(beam);
        Check.end();
    }

    private static void promise12ReactionLine(BeamLines beam) {
        for (int support = 0; support < 3; support++) {
            for (int x = 0; x <= 12; x++) {
                Check.same("reactionLine(" + support + ", " + x + ")", REACTIONS[support][x], beam.reactionLine(support, x));
            }
        }
        BeamLines ends = Texts.made(OVERHANG);
        Check.same("unit", 6, ends.unit());
        Check.same("beyond the left support", 8, ends.reactionLine(0, 0));
        Check.same("beyond the left support, the other one", -2, ends.reactionLine(1, 0));
        Check.same("beyond the right support", -2, ends.reactionLine(0, 10));
        Check.noIndex("support 3", () -> beam.reactionLine(3, 0));
        Check.noIndex("support -1", () -> beam.reactionLine(-1, 0));
        Check.noIndex("place 13", () -> beam.reactionLine(0, 13));
        Check.noIndex("place -1", () -> beam.reactionLine(0, -1));
    }

    private static void promise13ShearLine(BeamLines beam) {
        int[][] due = {{0, 0, 0}, {0, 2, 6}, {0, 9, -3}, {1, 2, 6}, {2, 2, -6}, {3, 4, 0}, {4, 4, 0}, {4, 2, 0}, {4, 9, 6},
            {8, 9, 6}, {9, 9, -6}, {11, 11, -10}, {11, 12, 0}, {8, 6, 0}, {5, 6, 12}, {6, 6, 0}};
        for (int[] row : due) {
            Check.same("shearLine(" + row[0] + ", " + row[1] + ")", row[2], beam.shearLine(row[0], row[1]));
        }
        Check.noIndex("field 12", () -> beam.shearLine(12, 0));
        Check.noIndex("field -1", () -> beam.shearLine(-1, 0));
        Check.noIndex("place 13", () -> beam.shearLine(0, 13));
        Check.noIndex("place -1", () -> beam.shearLine(0, -1));
    }

    private static void promise14MomentLine(BeamLines beam) {
        long[] atSupport = {0, 0, 0, 0, 0, -12, -24, -20, -16, -12, -8, -4, 0};
        long[] inRightPart = {0, 0, 0, 0, 0, 0, 0, 6, 12, 18, 12, 6, 0};
        long[] inLeftSpan = {0, 6, 12, 6, 0, -6, -12, -10, -8, -6, -4, -2, 0};
        for (int x = 0; x <= 12; x++) {
            Check.same("momentLine(4, " + x + ")", atSupport[x], beam.momentLine(4, x));
            Check.same("momentLine(9, " + x + ")", inRightPart[x], beam.momentLine(9, x));
            Check.same("momentLine(2, " + x + ")", inLeftSpan[x], beam.momentLine(2, x));
            Check.same("momentLine(6, " + x + ")", 0, beam.momentLine(6, x));
            Check.same("momentLine(0, " + x + ")", 0, beam.momentLine(0, x));
            Check.same("momentLine(12, " + x + ")", 0, beam.momentLine(12, x));
        }
        Check.noIndex("section 13", () -> beam.momentLine(13, 0));
        Check.noIndex("section -1", () -> beam.momentLine(-1, 0));
        Check.noIndex("place 13", () -> beam.momentLine(0, 13));
        Check.noIndex("place -1", () -> beam.momentLine(0, -1));
    }

    private static void promise15Area(BeamLines beam) {
        Check.same("area(4)", -96, beam.area(4));
        Check.same("area(9)", 54, beam.area(9));
        Check.same("area(2)", -24, beam.area(2));
        Check.same("area(6)", 0, beam.area(6));
        Check.same("area of the last place", 0, beam.area(12));
        Check.same("loads beyond the left support", -18, Texts.made(OVERHANG).area(2));
        Check.same("loads beyond the right support", -18, Texts.made(OVERHANG).area(8));
        Check.noIndex("section 13", () -> beam.area(13));
        Check.noIndex("section -1", () -> beam.area(-1));
    }

    private static void promise16Still(BeamLines beam) {
        Check.same("still(4)", 4096 + 31, beam.still(4));
        Check.same("still(9)", 4096 + 127, beam.still(9));
        Check.same("still(2)", 4096 + 16 + 1, beam.still(2));
        Check.same("still at the hinge", 8191, beam.still(6));
        Check.same("loads beyond the left support", 2044, Texts.made(OVERHANG).still(2));
        Check.same("loads beyond the right support", 511, Texts.made(OVERHANG).still(8));
        Check.same("bit 30", Integer.MAX_VALUE, Texts.made("beam 30 most 1;support 0;support 30;").still(0));
        Check.noIndex("section 13", () -> beam.still(13));
        Check.noIndex("section -1", () -> beam.still(-1));
    }

    private static void promise17Gap(BeamLines beam) {
        for (int section = 0; section <= 12; section++) {
            for (int x = 0; x <= 12; x++) {
                Check.same("gap(" + section + ", " + x + ")", 0, beam.gap(section, x));
            }
        }
        for (int x = 0; x <= 10; x++) {
            Check.same("left of all supports", 0, Texts.made(OVERHANG).gap(0, x));
        }
        Check.noIndex("section 13", () -> beam.gap(13, 0));
        Check.noIndex("section -1", () -> beam.gap(-1, 0));
        Check.noIndex("place 13", () -> beam.gap(0, 13));
        Check.noIndex("place -1", () -> beam.gap(0, -1));
    }
}
