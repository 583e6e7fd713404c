/** Promises 5 to 11: the numbers of a beam. */
final class SetupTest {
    public static void main(String[] args) {
        promise5Count();
        promise6Unit();
        promise7Support();
        promise8Hinge();
        promise9Weight();
        promise10Axle();
        promise11Part();
        Check.end();
    }

    private static void promise5Count() {
        BeamLines beam = Texts.made("beam 20 most 77;support 0;support 5;support 11;support 20;hinge 7;hinge 15;"
                + "load 5 at 3;load 9 at 3;load 999 at 20;axle 7 behind 2;axle 10 behind 30;axle 8 behind 4;axle 1 behind 0;");
        int[] due = {20, 4, 2, 3, 4, 77, 1013, 26, 50};
        for (int what = 0; what < due.length; what++) {
            Check.same("count(" + what + ")", due[what], beam.count(what));
        }
        beam.dropAxle(1);
        Check.same("last head by the last axle, not the latest", 24, beam.count(8));
        beam.dropAxle(0);
        beam.dropAxle(0);
        Check.same("last head with an axle at the head", 20, beam.count(8));
        beam.dropAxle(0);
        Check.same("last head without axles", 0, beam.count(8));
        Check.badArgument("count(9)", () -> beam.count(9));
        Check.badArgument("count(-1)", () -> beam.count(-1));
        Check.badArgument("count of the least int", () -> beam.count(Integer.MIN_VALUE));
    }

    private static void promise6Unit() {
        Check.same("two supports", 10, new BeamLines().unit());
        Check.same("the bridge", 12, Texts.made(Texts.BRIDGE).unit());
        Check.same("whole influences", 1, Texts.made("beam 9 most 1;support 4;support 5;").unit());
        Check.same("not the length", 3, Texts.made("beam 9 most 1;support 5;support 8;").unit());
        // All influences on both outer spans are quarters and thirds, and the hinge hands on sixths of quarters.
        BeamLines beam = Texts.made("beam 12 most 50;support 0;support 4;support 12;hinge 5;");
        Check.same("spans of 4 and 7", 28, beam.unit());
        Check.same("a unit does not hang on loads", 2, beam.addLoad(7, 3) + beam.addAxle(5, 2) + 2);
        Check.same("with loads", 28, beam.unit());
        beam.moveHinge(0, 6);
        Check.same("after a move", 12, beam.unit());
        beam.undo();
        Check.same("after undo", 28, beam.unit());
    }

    private static void promise7Support() {
        BeamLines beam = Texts.made(Texts.BRIDGE);
        int[][] due = {{0, 9}, {4, -1}, {12, 20}};
        for (int number = 0; number < due.length; number++) {
            Check.same("place " + number, due[number][0], beam.support(number, 0));
            Check.same("bearing " + number, due[number][1], beam.support(number, 1));
        }
        Check.noIndex("support 3", () -> beam.support(3, 0));
        Check.noIndex("support -1", () -> beam.support(-1, 1));
        Check.noIndex("support 3, the number first", () -> beam.support(3, 2));
        Check.badArgument("what 2", () -> beam.support(0, 2));
        Check.badArgument("what -1", () -> beam.support(2, -1));
    }

    private static void promise8Hinge() {
        BeamLines beam = Texts.made("beam 20 most 77;support 0;support 5;support 11;support 20;hinge 15;hinge 7;");
        Check.same("hinge 0", 7, beam.hinge(0));
        Check.same("hinge 1", 15, beam.hinge(1));
        Check.noIndex("hinge 2", () -> beam.hinge(2));
        Check.noIndex("hinge -1", () -> beam.hinge(-1));
        Check.noIndex("no hinge at all", () -> new BeamLines().hinge(0));
    }

    private static void promise9Weight() {
        BeamLines beam = Texts.made(Texts.BRIDGE);
        int[][] due = {{3, 2}, {4, 9}, {1, 6}};
        for (int number = 0; number < due.length; number++) {
            Check.same("weight " + number, due[number][0], beam.weight(number, 0));
            Check.same("place " + number, due[number][1], beam.weight(number, 1));
        }
        Check.noIndex("load 3", () -> beam.weight(3, 0));
        Check.noIndex("load -1", () -> beam.weight(-1, 0));
        Check.noIndex("load 3, the number first", () -> beam.weight(3, -1));
        Check.badArgument("what 2", () -> beam.weight(0, 2));
        Check.badArgument("what -1", () -> beam.weight(0, -1));
    }

    private static void promise10Axle() {
        BeamLines beam = Texts.made("beam 9 most 1;support 0;support 9;axle 7 behind 30;axle 999 behind 0;axle 7 behind 2;");
        int[][] due = {{7, 30}, {999, 0}, {7, 2}};
        for (int number = 0; number < due.length; number++) {
            Check.same("weight " + number, due[number][0], beam.axle(number, 0));
            Check.same("behind " + number, due[number][1], beam.axle(number, 1));
        }
        Check.noIndex("axle 3", () -> beam.axle(3, 0));
        Check.noIndex("axle -1", () -> beam.axle(-1, 0));
        Check.noIndex("axle 3, the number first", () -> beam.axle(3, 2));
        Check.badArgument("what 2", () -> beam.axle(0, 2));
        Check.badArgument("what -1", () -> beam.axle(0, -1));
    }

    private static void promise11Part() {
        BeamLines beam = Texts.made("beam 20 most 77;support 0;support 5;support 11;support 20;hinge 7;hinge 15;");
        int[][] due = {{0, 0}, {6, 0}, {7, 1}, {8, 1}, {14, 1}, {15, 2}, {16, 2}, {20, 2}};
        for (int[] pair : due) {
            Check.same("part of " + pair[0], pair[1], beam.part(pair[0]));
        }
        Check.same("one part alone", 0, new BeamLines().part(10));
        Check.noIndex("place 21", () -> beam.part(21));
        Check.noIndex("place -1", () -> beam.part(-1));
    }
}
