/** Terms 1 and 2: the bounds of the beam, and its unit. */
final class EdgeBeamTest {
    /** Whoever stands on one support alone needs a neighbour that stands by itself. */
    private static final String FOUR = "beam 18 most 9;support 2;support 6;support 12;support 16;";
    private static final String FIVE = "beam 30 most 9;support 2;support 8;support 14;support 20;support 26;";
    /** The reactions of this beam have the greatest unit that there is. */
    private static final String FINEST = "beam 30 most 999999;support 0;support 8;support 15;support 23;support 30;"
            + "hinge 7;hinge 14;hinge 22;";

    public static void main(String[] args) {
        terms1Length();
        terms1Places();
        terms1HowManySupports();
        terms1SupportsAtDifferentPlaces();
        terms1SupportsByTheirPlaces();
        terms1HowManyHinges();
        terms1WhereHingesMayBe();
        terms1HingesByTheirPlaces();
        terms1Bearing();
        terms1ReactionBelowNothing();
        terms1MomentLeftOfThePlace();
        terms1ShearUpToThePlace();
        terms1NoMomentAtHinges();
        terms1StandsWithOneHinge();
        terms1StandsWithTwoHinges();
        terms1StandsWithThreeHinges();
        terms1StandsWithAllHinges();
        terms2OneLoadAlone();
        terms2LeastUnit();
        terms2UnitFromOneOn();
        terms2GreatestUnit();
        Check.end();
    }

    private static void tells(String due, String text) {
        Check.sameText(text, due, Texts.told(text));
    }

    private static void falls(String text) {
        tells("-7 at " + text.length(), text);
    }

    private static void terms1Length() {
        Check.under("terms 1, a length of 2 to 30");
        tells("-3 at 5", "beam 0 most 9;support 0;support 0;");
        tells("-3 at 5", "beam 1 most 9;support 0;support 1;");
        tells("2 at -1", "beam 2 most 9;support 0;support 2;");
        tells("2 at -1", "beam 30 most 9;support 0;support 30;");
        tells("-3 at 5", "beam 31 most 9;support 0;support 30;");
        Check.same("the least", 2, Texts.made("beam 2 most 9;support 0;support 2;").count(0));
        Check.same("the greatest", 30, Texts.made("beam 30 most 9;support 0;support 30;").count(0));
    }

    private static void terms1Places() {
        Check.under("terms 1, places from 0 to the length");
        for (int length : new int[] {2, 30}) {
            Same.Making making = () -> Texts.busy("beam " + length + " most 9;support 0;support 1;");
            Check.same("the first place", 0, making.beam().part(0));
            Check.same("the last place", 0, making.beam().part(length));
            Same.noIndex("before the first", making, beam -> beam.part(-1));
            Same.noIndex("behind the last", making, beam -> beam.part(length + 1));
            Check.same("how many are written", length + 1, making.beam().writeBeam());
        }
    }

    private static void terms1HowManySupports() {
        Check.under("terms 1, 2 to 5 supports");
        tells("-6 at 14", "beam 9 most 9;");
        tells("-6 at 24", "beam 9 most 9;support 0;");
        tells("2 at -1", "beam 9 most 9;support 0;support 9;");
        tells("5 at -1", FIVE + "hinge 9;hinge 15;hinge 21;");
        tells("-5 at 68", FIVE + "support 30;hinge 9;hinge 15;hinge 21;");
    }

    private static void terms1SupportsAtDifferentPlaces() {
        Check.under("terms 1, supports at different places");
        tells("-4 at 32", "beam 9 most 9;support 0;support 0;");
        tells("2 at -1", "beam 9 most 9;support 0;support 1;");
        tells("-4 at 32", "beam 9 most 9;support 9;support 9;");
        tells("2 at -1", "beam 9 most 9;support 9;support 8;");
    }

    private static void terms1SupportsByTheirPlaces() {
        Check.under("terms 1, supports numbered from 0 from the left");
        BeamLines beam = Texts.made("beam 30 most 9;support 30;support 0 bears 3;support 29;support 1;support 15;hinge 8;hinge 16;hinge 7;");
        int[] due = {0, 1, 15, 29, 30};
        for (int number = 0; number < due.length; number++) {
            Check.same("place " + number, due[number], beam.support(number, 0));
        }
        Check.same("the bearing goes with it", 3, beam.support(0, 1));
    }

    private static void terms1HowManyHinges() {
        Check.under("terms 1, as many hinges as supports, less 2");
        String two = "beam 20 most 9;support 0;support 4;";
        String three = two + "support 8;";
        String four = three + "support 14;";
        String five = four + "support 20;";
        tells("2 at -1", two);
        tells("-6 at 43", two + "hinge 5;");
        tells("-6 at 45", three);
        tells("3 at -1", three + "hinge 5;");
        tells("-6 at 61", three + "hinge 5;hinge 9;");
        tells("-6 at 64", four + "hinge 5;");
        tells("4 at -1", four + "hinge 5;hinge 9;");
        tells("-6 at 81", four + "hinge 5;hinge 9;hinge 15;");
        tells("-6 at 83", five + "hinge 5;hinge 9;");
        tells("5 at -1", five + "hinge 5;hinge 9;hinge 15;");
    }

    private static void terms1WhereHingesMayBe() {
        Check.under("terms 1, hinges at places from 1 to the length less 1 without a support");
        String three = "beam 9 most 9;support 0;support 2;support 9;";
        tells("-3 at 50", three + "hinge 0;");
        tells("3 at -1", three + "hinge 1;");
        tells("-4 at 50", three + "hinge 2;");
        tells("3 at -1", three + "hinge 3;");
        tells("3 at -1", three + "hinge 8;");
        tells("-3 at 50", three + "hinge 9;");
        tells("-3 at 50", three + "hinge 10;");
        tells("-4 at 30", "beam 9 most 9;hinge 2;support 2;");
        tells("-4 at 28", "beam 9 most 9;hinge 2;hinge 2;");
    }

    private static void terms1HingesByTheirPlaces() {
        Check.under("terms 1, hinges numbered from 0 from the left");
        BeamLines beam = Texts.made(FIVE + "hinge 21;hinge 9;hinge 15;");
        Check.same("hinge 0", 9, beam.hinge(0));
        Check.same("hinge 1", 15, beam.hinge(1));
        Check.same("hinge 2", 21, beam.hinge(2));
    }

    private static void terms1Bearing() {
        Check.under("terms 1, a bearing from 1 to 99999, or anything without one");
        tells("-3 at 30", "beam 2 most 9;support 0 bears 0;support 2;");
        tells("2 at -1", "beam 2 most 9;support 0 bears 1;support 2;");
        tells("2 at -1", "beam 2 most 9;support 0 bears 99999;support 2;");
        tells("-3 at 30", "beam 2 most 9;support 0 bears 100000;support 2;");
        String heaviest = "load 999 at 0;".repeat(8) + "axle 999 behind 0;".repeat(6);
        Check.same("it may bear anything", 0, Texts.made("beam 2 most 9;support 0;support 2;" + heaviest).danger(0));
        Check.same("just what it may", 0, Texts.made("beam 2 most 9;support 0 bears 13986;support 2;" + heaviest).danger(0));
        Check.same("one too much", 2, Texts.made("beam 2 most 9;support 0 bears 13985;support 2;" + heaviest).danger(0));
    }

    private static void terms1ReactionBelowNothing() {
        Check.under("terms 1, a reaction may be below 0");
        BeamLines beam = Texts.made("beam 10 most 9;support 2;support 8;load 1 at 0;load 1 at 2;");
        Check.same("the other support pulls", -2, beam.reaction(1, 0));
        Check.same("the near one holds all", 14, beam.reaction(0, 0));
        BeamLines level = Texts.made("beam 10 most 9;support 2;support 8;load 1 at 2;");
        Check.same("just nothing", 0, level.reaction(1, 0));
    }

    private static void terms1MomentLeftOfThePlace() {
        Check.under("terms 1, the moment counts what is left of the place");
        BeamLines beam = Texts.made("beam 10 most 9;support 2;support 8;load 6 at 5;");
        long[] due = {0, 0, 0, 18, 36, 54, 36, 18, 0, 0, 0};
        for (int place = 0; place < due.length; place++) {
            Check.same("moment at " + place, due[place], beam.moment(place, 0));
        }
        BeamLines ends = Texts.made("beam 10 most 9;support 2;support 8;load 6 at 0;load 6 at 10;");
        long[] below = {0, -36, -72, -72, -72, -72, -72, -72, -72, -36, 0};
        for (int place = 0; place < below.length; place++) {
            Check.same("moment at " + place + " by loads at both ends", below[place], ends.moment(place, 0));
        }
    }

    private static void terms1ShearUpToThePlace() {
        Check.under("terms 1, the shear counts what is at the places up to its field");
        BeamLines beam = Texts.made("beam 10 most 9;support 2;support 8;load 6 at 5;");
        long[] due = {0, 0, 18, 18, 18, -18, -18, -18, 0, 0};
        for (int field = 0; field < due.length; field++) {
            Check.same("shear in " + field, due[field], beam.shear(field, 0));
        }
        BeamLines ends = Texts.made("beam 10 most 9;support 2;support 8;load 6 at 0;load 6 at 10;");
        long[] outer = {-36, -36, 0, 0, 0, 0, 0, 0, 36, 36};
        for (int field = 0; field < outer.length; field++) {
            Check.same("shear in " + field + " by loads at both ends", outer[field], ends.shear(field, 0));
        }
    }

    private static void terms1NoMomentAtHinges() {
        Check.under("terms 1, the moment at each hinge is 0");
        BeamLines beam = Texts.made(FINEST);
        for (int number = 0; number < 3; number++) {
            for (int x = 0; x <= 30; x++) {
                Check.same("hinge " + number + ", load at " + x, 0, beam.momentLine(beam.hinge(number), x));
            }
        }
        Check.same("a place before", 1, beam.momentLine(6, 6) != 0 ? 1 : 0);
        Check.same("a place behind", 1, beam.momentLine(8, 0) + beam.momentLine(8, 7) != 0 ? 1 : 0);
    }

    private static void terms1StandsWithOneHinge() {
        Check.under("terms 1, there is just one way for the reactions");
        String three = "beam 9 most 9;support 2;support 4;support 6;";
        falls(three + "hinge 1;");
        tells("3 at -1", three + "hinge 3;");
        tells("3 at -1", three + "hinge 5;");
        falls(three + "hinge 7;");
    }

    private static void terms1StandsWithTwoHinges() {
        Check.under("terms 1, there is just one way for the reactions with two hinges");
        tells("4 at -1", FOUR + "hinge 7;hinge 11;");
        tells("4 at -1", FOUR + "hinge 11;hinge 15;");
        falls(FOUR + "hinge 11;hinge 17;");
        tells("4 at -1", FOUR + "hinge 5;hinge 15;");
        tells("4 at -1", FOUR + "hinge 3;hinge 7;");
        falls(FOUR + "hinge 1;hinge 7;");
        falls(FOUR + "hinge 3;hinge 5;");
        falls(FOUR + "hinge 13;hinge 15;");
        falls(FOUR + "hinge 5;hinge 17;");
        falls(FOUR + "hinge 7;hinge 17;");
    }

    private static void terms1StandsWithThreeHinges() {
        Check.under("terms 1, there is just one way for the reactions with three hinges");
        tells("5 at -1", FIVE + "hinge 9;hinge 15;hinge 21;");
        tells("5 at -1", FIVE + "hinge 9;hinge 10;hinge 15;");
        tells("5 at -1", FIVE + "hinge 7;hinge 15;hinge 16;");
        tells("5 at -1", FIVE + "hinge 3;hinge 9;hinge 15;");
        falls(FIVE + "hinge 9;hinge 10;hinge 11;");
        falls(FIVE + "hinge 3;hinge 21;hinge 22;");
        falls(FIVE + "hinge 9;hinge 21;hinge 27;");
        falls(FIVE + "hinge 1;hinge 9;hinge 15;");
    }

    /** No parts side by side may have more supports together than their number and one more; else others have too few. */
    private static boolean stands(BeamLines beam, int... hinges) {
        int[] supports = new int[hinges.length + 1];
        for (int number = 0; number < hinges.length + 2; number++) {
            int part = 0;
            while (part < hinges.length && hinges[part] < beam.support(number, 0)) {
                part++;
            }
            supports[part]++;
        }
        for (int first = 0; first < supports.length; first++) {
            int sum = 0;
            for (int last = first; last < supports.length; last++) {
                sum += supports[last];
                if (sum > last - first + 2) {
                    return false;
                }
            }
        }
        return true;
    }

    private static void terms1StandsWithAllHinges() {
        Check.under("terms 1, there is just one way for the reactions, wherever the hinges are");
        BeamLines four = Texts.made(FOUR + "hinge 7;hinge 11;");
        for (int first = 1; first <= 17; first++) {
            for (int second = first + 1; second <= 17; second++) {
                String text = FOUR + "hinge " + second + ";hinge " + first + ";";
                if (!FOUR.contains("support " + first + ";") && !FOUR.contains("support " + second + ";")) {
                    tells(stands(four, first, second) ? "4 at -1" : "-7 at " + text.length(), text);
                }
            }
        }
        BeamLines five = Texts.made(FIVE + "hinge 9;hinge 15;hinge 21;");
        for (int first = 1; first <= 29; first += 3) {
            for (int second = first + 3; second <= 29; second += 3) {
                for (int third = second + 3; third <= 29; third += 3) {
                    String text = FIVE + "hinge " + first + ";hinge " + second + ";hinge " + third + ";";
                    tells(stands(five, first, second, third) ? "5 at -1" : "-7 at " + text.length(), text);
                }
            }
        }
    }

    private static void terms2OneLoadAlone() {
        Check.under("terms 2, an influence is that of one load without any other");
        BeamLines beam = Texts.made("beam 10 most 9;support 0;support 10;load 999 at 3;axle 999 behind 0;");
        Check.same("reaction", 7, beam.reactionLine(0, 3));
        Check.same("shear", -3, beam.shearLine(3, 3));
        Check.same("moment", 21, beam.momentLine(3, 3));
        Check.same("unit", 10, beam.unit());
    }

    private static void terms2LeastUnit() {
        Check.under("terms 2, the unit is the least");
        String[] texts = {"beam 10 most 9;support 0;support 10;", "beam 9 most 9;support 1;support 7;", Texts.BRIDGE, FINEST,
            FIVE + "hinge 9;hinge 15;hinge 21;", FOUR + "hinge 7;hinge 11;", "beam 12 most 50;support 0;support 4;support 12;hinge 5;"};
        for (String text : texts) {
            BeamLines beam = Texts.made(text);
            long divisor = beam.unit();
            for (int support = 0; support < beam.count(1); support++) {
                for (int x = 0; x <= beam.count(0); x++) {
                    divisor = commonDivisor(divisor, Math.abs(beam.reactionLine(support, x)));
                }
            }
            Check.same("a number that divides the unit and all influences of " + text, 1, divisor);
            Check.same("a load on a support is borne by it alone", beam.unit(), beam.reactionLine(0, beam.support(0, 0)));
        }
    }

    private static long commonDivisor(long one, long other) {
        return other == 0 ? one : commonDivisor(other, one % other);
    }

    private static void terms2UnitFromOneOn() {
        Check.under("terms 2, the unit is a whole number from 1 on");
        Check.same("supports side by side", 1, Texts.made("beam 30 most 9;support 14;support 15;").unit());
        Check.same("two apart", 2, Texts.made("beam 30 most 9;support 14;support 16;").unit());
        Check.same("as far as can be", 30, Texts.made("beam 30 most 9;support 0;support 30;").unit());
        Check.same("side by side with a hinge right", 1, Texts.made("beam 4 most 9;support 0;support 1;support 3;hinge 2;").unit());
        Check.same("side by side with a hinge left", 1, Texts.made("beam 4 most 9;support 0;support 2;support 3;hinge 1;").unit());
        Check.same("with a hinge left", 2, Texts.made("beam 9 most 9;support 1;support 3;support 5;hinge 2;").unit());
        Check.same("with a hinge right", 2, Texts.made("beam 9 most 9;support 1;support 3;support 5;hinge 4;").unit());
    }

    private static void terms2GreatestUnit() {
        Check.under("terms 2, all is told times the unit");
        BeamLines beam = Texts.made(FINEST + "load 999 at 7;");
        Check.same("unit", 2058, beam.unit());
        // No support bears more of one load anywhere: 7/6.
        long[] due = {0, 2401, -392, 56, -7};
        for (int support = 0; support < due.length; support++) {
            Check.same("influence on " + support, due[support], beam.reactionLine(support, 7));
            Check.same("reaction " + support, 999 * due[support], beam.reaction(support, 0));
        }
    }
}
