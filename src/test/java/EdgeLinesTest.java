/** Promises 12 to 17: the bounds of influence lines. */
final class EdgeLinesTest {
    private static final int[] NO_PLACES = {-1, 13, 31, Integer.MIN_VALUE, -256, 256, Integer.MAX_VALUE};
    private static final int[] NO_SUPPORTS = {-1, 3, 5, Integer.MIN_VALUE, -256, 256, Integer.MAX_VALUE};
    private static final int[] NO_FIELDS = {-1, 12, 13, 30, Integer.MIN_VALUE, -256, 256, Integer.MAX_VALUE};
    private static final String BEYOND = "beam 10 most 9;support 2;support 8;";
    private static final String LONGEST = "beam 30 most 9;support 0;support 30;";

    public static void main(String[] args) {
        promise12FirstAndLast();
        promise12DoesNotExist();
        promise13FirstAndLast();
        promise13BesideTheLoad();
        promise13DoesNotExist();
        promise14FirstAndLast();
        promise14DoesNotExist();
        promise15FirstAndLast();
        promise15DoesNotExist();
        promise16FirstAndLast();
        promise16JustNone();
        promise16DoesNotExist();
        promise17AlwaysNothing();
        promise17DoesNotExist();
        Check.end();
    }

    private static void promise12FirstAndLast() {
        Check.under("promise 12, the first and the last support and place");
        Same.answers("first, first", 12, Texts::busy, beam -> beam.reactionLine(0, 0));
        Same.answers("last, last", 12, Texts::busy, beam -> beam.reactionLine(2, 12));
        Same.answers("first, last", 0, Texts::busy, beam -> beam.reactionLine(0, 12));
        Same.answers("below nothing", -6, Texts::busy, beam -> beam.reactionLine(0, 6));
        BeamLines beam = Texts.made(BEYOND);
        long[] left = {8, 7, 6, 5, 4, 3, 2, 1, 0, -1, -2};
        for (int x = 0; x <= 10; x++) {
            Check.same("left by a load at " + x, left[x], beam.reactionLine(0, x));
            Check.same("right by a load at " + x, left[10 - x], beam.reactionLine(1, x));
        }
        Check.same("the longest beam", 30, Texts.made(LONGEST).reactionLine(1, 30));
    }

    private static void promise12DoesNotExist() {
        Check.under("promise 12, the support or the place does not exist");
        for (int support : NO_SUPPORTS) {
            Same.noIndex("support " + support, Texts::busy, beam -> beam.reactionLine(support, 0));
        }
        for (int place : NO_PLACES) {
            Same.noIndex("place " + place, Texts::busy, beam -> beam.reactionLine(0, place));
        }
        Same.noIndex("both", Texts::busy, beam -> beam.reactionLine(3, 13));
        Check.noIndex("behind the last place of the longest beam", () -> Texts.made(LONGEST).reactionLine(0, 31));
    }

    private static void promise13FirstAndLast() {
        Check.under("promise 13, the first and the last field and place");
        Same.answers("first field, first place", 0, Texts::busy, beam -> beam.shearLine(0, 0));
        Same.answers("first field, second place", 9, Texts::busy, beam -> beam.shearLine(0, 1));
        Same.answers("last field, last place", 0, Texts::busy, beam -> beam.shearLine(11, 12));
        Same.answers("last field, last place but one", -10, Texts::busy, beam -> beam.shearLine(11, 11));
        BeamLines beam = Texts.made(BEYOND);
        Check.same("beyond the supports, a load at the end", -6, beam.shearLine(0, 0));
        Check.same("beyond the supports, a load elsewhere", 0, beam.shearLine(0, 1));
        Check.same("beyond the supports, a load at the other end", 6, beam.shearLine(9, 10));
        Check.same("beyond the supports, a load at the field", 0, beam.shearLine(9, 9));
        Check.same("the last field of the longest beam", -29, Texts.made(LONGEST).shearLine(29, 29));
    }

    private static void promise13BesideTheLoad() {
        Check.under("promise 13, a load at the left end of the field counts, one at the right end does not");
        BeamLines beam = Texts.made("beam 10 most 9;support 0;support 10;");
        Check.same("load left of the field", -3, beam.shearLine(4, 3));
        Check.same("load at its left end", -4, beam.shearLine(4, 4));
        Check.same("load at its right end", 5, beam.shearLine(4, 5));
        BeamLines beyond = Texts.made(BEYOND);
        Check.same("a support at its right end does not count", 0, beyond.shearLine(1, 2));
        Check.same("a support at its left end does", 3, beyond.shearLine(2, 5));
    }

    private static void promise13DoesNotExist() {
        Check.under("promise 13, the field or the place does not exist");
        for (int field : NO_FIELDS) {
            Same.noIndex("field " + field, Texts::busy, beam -> beam.shearLine(field, 0));
        }
        for (int place : NO_PLACES) {
            Same.noIndex("place " + place, Texts::busy, beam -> beam.shearLine(0, place));
        }
        Same.noIndex("both", Texts::busy, beam -> beam.shearLine(12, 13));
        Check.noIndex("behind the last field of the longest beam", () -> Texts.made(LONGEST).shearLine(30, 0));
    }

    private static void promise14FirstAndLast() {
        Check.under("promise 14, the first and the last section and place");
        Same.answers("first, first", 0, Texts::busy, beam -> beam.momentLine(0, 0));
        Same.answers("last, last", 0, Texts::busy, beam -> beam.momentLine(12, 12));
        Same.answers("second, second", 9, Texts::busy, beam -> beam.momentLine(1, 1));
        Same.answers("last but one", 10, Texts::busy, beam -> beam.momentLine(11, 11));
        BeamLines beam = Texts.made(BEYOND);
        Check.same("a load at the end", -12, beam.momentLine(2, 0));
        Check.same("at the end itself", 0, beam.momentLine(0, 0));
        Check.same("a load at the other end", -12, beam.momentLine(8, 10));
        Check.same("at the other end itself", 0, beam.momentLine(10, 0));
        Check.same("beside the load", -6, beam.momentLine(1, 0));
        Check.same("left of the load", 0, beam.momentLine(9, 0));
        Check.same("the longest beam", 225, Texts.made(LONGEST).momentLine(15, 15));
        Check.same("its last place but one", 29, Texts.made(LONGEST).momentLine(29, 29));
    }

    private static void promise14DoesNotExist() {
        Check.under("promise 14, one of the places does not exist");
        for (int place : NO_PLACES) {
            Same.noIndex("section " + place, Texts::busy, beam -> beam.momentLine(place, 0));
            Same.noIndex("place " + place, Texts::busy, beam -> beam.momentLine(12, place));
        }
        Same.noIndex("both", Texts::busy, beam -> beam.momentLine(-1, 13));
    }

    private static void promise15FirstAndLast() {
        Check.under("promise 15, the first and the last section, loads at all places");
        Same.answers("first", 0, Texts::busy, beam -> beam.area(0));
        Same.answers("last", 0, Texts::busy, beam -> beam.area(12));
        Same.answers("below nothing", -96, Texts::busy, beam -> beam.area(4));
        BeamLines beam = Texts.made(BEYOND);
        Check.same("loads at the first two places", -18, beam.area(2));
        Check.same("loads at the last two places", -18, beam.area(8));
        // From 0 to 10: -6 -3 0 3 6 9 6 3 0 -3 -6.
        Check.same("all places", 9, beam.area(5));
        Check.same("the last place alone", -6, beam.area(9));
    }

    private static void promise15DoesNotExist() {
        Check.under("promise 15, the place does not exist");
        for (int place : NO_PLACES) {
            Same.noIndex("section " + place, Texts::busy, beam -> beam.area(place));
        }
    }

    private static void promise16FirstAndLast() {
        Check.under("promise 16, the first and the last section, bit x for the place x");
        Same.answers("first", 8191, Texts::busy, beam -> beam.still(0));
        Same.answers("last", 8191, Texts::busy, beam -> beam.still(12));
        Same.answers("between", 4096 + 31, Texts::busy, beam -> beam.still(4));
        Check.same("all but bit 0 and bit 1", 2047 - 3, Texts.made(BEYOND).still(2));
        Check.same("all but the last two bits", 511, Texts.made(BEYOND).still(8));
        Check.same("31 places", Integer.MAX_VALUE, Texts.made(LONGEST).still(30));
        Check.same("both ends of 31 places", 1 + (1 << 30), Texts.made(LONGEST).still(15));
        Check.same("3 places", 7, Texts.made("beam 2 most 9;support 0;support 2;").still(0));
    }

    private static void promise16JustNone() {
        Check.under("promise 16, no influence, however little there is else");
        BeamLines beam = Texts.made(BEYOND);
        Check.same("on the supports", 4 + 256, beam.still(5));
        Check.same("just below and above nothing", 1, beam.momentLine(3, 7) > 0 && beam.momentLine(3, 9) < 0 ? 1 : 0);
        Check.same("nothing between", 4 + 256, beam.still(3));
    }

    private static void promise16DoesNotExist() {
        Check.under("promise 16, the place does not exist");
        for (int place : NO_PLACES) {
            Same.noIndex("section " + place, Texts::busy, beam -> beam.still(place));
        }
    }

    private static void promise17AlwaysNothing() {
        Check.under("promise 17, always 0");
        String[] texts = {BEYOND, Texts.BRIDGE, "beam 2 most 9;support 0;support 1;", "beam 30 most 9;support 0;support 8;support 15;"
                + "support 23;support 30;hinge 7;hinge 14;hinge 22;"};
        for (String text : texts) {
            int length = Texts.made(text).count(0);
            for (int section = 0; section <= length; section++) {
                BeamLines beam = Texts.made(text);
                for (int x = 0; x <= length; x++) {
                    Check.same("gap(" + section + ", " + x + ")", 0, beam.gap(section, x));
                }
            }
        }
        Same.answers("last, last", 0, Texts::busy, beam -> beam.gap(12, 12));
    }

    private static void promise17DoesNotExist() {
        Check.under("promise 17, one of the places does not exist");
        for (int place : NO_PLACES) {
            Same.noIndex("section " + place, Texts::busy, beam -> beam.gap(place, 0));
            Same.noIndex("place " + place, Texts::busy, beam -> beam.gap(12, place));
        }
        Same.noIndex("both", Texts::busy, beam -> beam.gap(13, -1));
    }
}
