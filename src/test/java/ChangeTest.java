/** Promises 33 to 43: changes, refusals, undo, save and restore. */
final class ChangeTest {
    private static final String FOUR = "beam 20 most 77;support 0 bears 5;support 5;support 11;support 20 bears 8;hinge 7;hinge 15;";

    public static void main(String[] args) {
        promise33MoveSupport();
        promise34MoveHinge();
        promise35AddLoad();
        promise36DropLoad();
        promise37AddAxle();
        promise38DropAxle();
        promise39SetBearing();
        promise40SetMost();
        promise41Undo();
        promise41UndoOfEachChange();
        promise42Save();
        promise43Restore();
        Check.end();
    }

    /** The load that made the beam is the one change before; answers how many there were since. */
    private static int changes(BeamLines beam) {
        return beam.undo();
    }

    private static void promise33MoveSupport() {
        BeamLines beam = Texts.made(Texts.BRIDGE);
        Check.same("another support", -11, beam.moveSupport(0, 12));
        Check.same("a hinge", -11, beam.moveSupport(2, 6));
        Check.same("would not stand", -12, beam.moveSupport(2, 5));
        Check.noIndex("support 3", () -> beam.moveSupport(3, 1));
        Check.noIndex("support -1", () -> beam.moveSupport(-1, 1));
        Check.noIndex("place 13", () -> beam.moveSupport(0, 13));
        Check.noIndex("place -1", () -> beam.moveSupport(0, -1));
        Check.same("nothing moved", 0, beam.support(0, 0));
        Check.same("its own place", 0, beam.moveSupport(0, 0));
        Check.same("far to the right", 1, beam.moveSupport(0, 11));
        Check.same("left", 4, beam.support(0, 0));
        Check.same("middle", 11, beam.support(1, 0));
        Check.same("right", 12, beam.support(2, 0));
        Check.same("left bears", -1, beam.support(0, 1));
        Check.same("its bearing stays with it", 9, beam.support(1, 1));
        Check.same("right bears", 20, beam.support(2, 1));
        Check.same("back to the left", 0, beam.moveSupport(1, 1));
        Check.same("bearing again", 9, beam.support(0, 1));
        Check.same("the lines are new", 18, beam.unit());
        Check.same("three changes", 3, changes(beam));
        Check.same("beyond a hinge and a support", 2, Texts.made(FOUR).moveSupport(1, 13));
        BeamLines both = Texts.made("beam 12 most 50;support 2;support 4;support 6;hinge 5;");
        Check.same("1 before 2", -11, both.moveSupport(2, 4));
    }

    private static void promise34MoveHinge() {
        BeamLines beam = Texts.made(FOUR);
        Check.same("another hinge", -11, beam.moveHinge(0, 15));
        Check.same("a support", -11, beam.moveHinge(0, 5));
        Check.same("would not stand", -12, beam.moveHinge(0, 16));
        Check.badArgument("place 0", () -> beam.moveHinge(0, 0));
        Check.badArgument("place 20", () -> beam.moveHinge(0, 20));
        Check.noIndex("hinge 2", () -> beam.moveHinge(2, 1));
        Check.noIndex("hinge -1, the hinge first", () -> beam.moveHinge(-1, 20));
        Check.same("its own place", 1, beam.moveHinge(1, 15));
        Check.same("beyond the other one", 0, beam.moveHinge(1, 3));
        Check.same("hinge 0", 3, beam.hinge(0));
        Check.same("hinge 1", 7, beam.hinge(1));
        Check.same("back", 1, beam.moveHinge(0, 15));
        Check.same("hinge 0", 7, beam.hinge(0));
        Check.same("three changes", 3, changes(beam));
        BeamLines bridge = Texts.made("beam 12 most 50;support 0;support 4;support 12;hinge 6;");
        Check.same("moved", 0, bridge.moveHinge(0, 5));
        Check.same("the lines are new", 28, bridge.unit());
    }

    private static void promise35AddLoad() {
        BeamLines beam = new BeamLines();
        Check.noIndex("place 11", () -> beam.addLoad(1, 11));
        Check.noIndex("place -1, the place first", () -> beam.addLoad(0, -1));
        Check.badArgument("weight 0", () -> beam.addLoad(0, 1));
        Check.badArgument("weight 1000", () -> beam.addLoad(1000, 1));
        Check.badArgument("weight -5", () -> beam.addLoad(-5, 1));
        for (int number = 0; number < 8; number++) {
            Check.same("number", number, beam.addLoad(number == 0 ? 999 : number, number == 7 ? 10 : 0));
        }
        Check.same("a 9th load", -13, beam.addLoad(1, 1));
        Check.badArgument("wrong before full", () -> beam.addLoad(0, 1));
        Check.noIndex("wrong before full", () -> beam.addLoad(1, 11));
        Check.same("weight 0", 999, beam.weight(0, 0));
        Check.same("place 7", 10, beam.weight(7, 1));
        Check.same("weights", 999 + 28, beam.count(6));
        Check.same("a refusal is no change", 7, changes(beam));
    }

    private static void promise36DropLoad() {
        BeamLines beam = Texts.made(Texts.BRIDGE);
        Check.noIndex("load 3", () -> beam.dropLoad(3));
        Check.noIndex("load -1", () -> beam.dropLoad(-1));
        Check.same("its weight", 4, beam.dropLoad(1));
        Check.same("the one behind", 1, beam.weight(1, 0));
        Check.same("its place", 6, beam.weight(1, 1));
        Check.same("the one before", 3, beam.weight(0, 0));
        Check.same("how many", 2, beam.count(3));
        Check.same("presses no more", 0, beam.reaction(2, -1));
        Check.same("last", 1, beam.dropLoad(1));
        Check.same("first", 3, beam.dropLoad(0));
        Check.noIndex("none left", () -> beam.dropLoad(0));
        Check.same("changes", 3, changes(beam));
    }

    private static void promise37AddAxle() {
        BeamLines beam = new BeamLines();
        Check.badArgument("weight 0", () -> beam.addAxle(0, 1));
        Check.badArgument("weight 1000", () -> beam.addAxle(1000, 1));
        Check.badArgument("behind -1", () -> beam.addAxle(1, -1));
        Check.badArgument("behind 31", () -> beam.addAxle(1, 31));
        for (int number = 0; number < 6; number++) {
            Check.same("number", number, beam.addAxle(number == 0 ? 999 : number, number == 5 ? 0 : 30 - number));
        }
        Check.same("a 7th axle", -14, beam.addAxle(1, 1));
        Check.badArgument("wrong before full", () -> beam.addAxle(1, 31));
        Check.same("weight 0", 999, beam.axle(0, 0));
        Check.same("behind 0", 30, beam.axle(0, 1));
        Check.same("behind 5", 0, beam.axle(5, 1));
        Check.same("last head", 40, beam.count(8));
        Check.same("a refusal is no change", 5, changes(beam));
    }

    private static void promise38DropAxle() {
        BeamLines beam = Texts.made(Texts.BRIDGE);
        beam.addAxle(9, 8);
        Check.noIndex("axle 3", () -> beam.dropAxle(3));
        Check.noIndex("axle -1", () -> beam.dropAxle(-1));
        Check.same("its weight", 5, beam.dropAxle(0));
        Check.same("the one behind", 2, beam.axle(0, 0));
        Check.same("how far it is behind", 3, beam.axle(0, 1));
        Check.same("the last one", 9, beam.axle(1, 0));
        Check.same("how many", 2, beam.count(4));
        Check.same("last", 9, beam.dropAxle(1));
        Check.same("first", 2, beam.dropAxle(0));
        Check.noIndex("none left", () -> beam.dropAxle(0));
        Check.same("changes", 4, changes(beam));
    }

    private static void promise39SetBearing() {
        BeamLines beam = Texts.made(Texts.BRIDGE);
        Check.same("before", 9, beam.setBearing(0, 99999));
        Check.same("now", 99999, beam.support(0, 1));
        Check.same("before", 99999, beam.setBearing(0, -1));
        Check.same("now", -1, beam.support(0, 1));
        Check.same("none before", -1, beam.setBearing(0, 1));
        Check.same("the same again", 1, beam.setBearing(0, 1));
        Check.same("another one", 20, beam.setBearing(2, 7));
        Check.badArgument("0", () -> beam.setBearing(0, 0));
        Check.badArgument("100000", () -> beam.setBearing(0, 100000));
        Check.badArgument("-2", () -> beam.setBearing(0, -2));
        Check.noIndex("support 3", () -> beam.setBearing(3, 1));
        Check.noIndex("support -1, the number first", () -> beam.setBearing(-1, 0));
        Check.same("changes", 5, changes(beam));
        Check.same("the one before the last", 20, beam.support(2, 1));
    }

    private static void promise40SetMost() {
        BeamLines beam = new BeamLines();
        Check.same("before", 100, beam.setMost(1));
        Check.same("before", 1, beam.setMost(999999));
        Check.same("before", 999999, beam.setMost(999999));
        Check.same("now", 999999, beam.count(5));
        Check.badArgument("0", () -> beam.setMost(0));
        Check.badArgument("1000000", () -> beam.setMost(1000000));
        Check.badArgument("-1", () -> beam.setMost(-1));
        Check.same("changes", 2, changes(beam));
    }

    private static void promise41Undo() {
        BeamLines beam = new BeamLines();
        Check.badState("nothing to undo", beam::undo);
        for (int most = 1; most <= 10; most++) {
            beam.setMost(most);
        }
        for (int left = 7; left >= 0; left--) {
            Check.same("left", left, beam.undo());
            Check.same("MOST", left + 2, beam.count(5));
        }
        Check.badState("older ones can't be undone", beam::undo);
        Check.same("MOST stays", 2, beam.count(5));
        beam.setMost(50);
        beam.setMost(60);
        Check.same("undone", 1, beam.undo());
        beam.setMost(70);
        Check.same("in place of the undone one", 1, beam.undo());
        Check.same("MOST", 50, beam.count(5));
        Texts.put(beam, "beam 2 mo");
        beam.save(1);
        beam.writeBeam();
        beam.undo();
        Check.same("the buffer stays", 9, beam.append(0, 0, 0, 0, 0));
        Check.same("the written text stays", '^', beam.writtenByte(10));
        Check.same("saved things stay", 2, beam.restore(1));
        Check.same("MOST", 50, beam.count(5));
    }

    private static void promise41UndoOfEachChange() {
        BeamLines beam = Texts.made(Texts.BRIDGE);
        Texts.load(beam, FOUR);
        Check.same("load", 1, beam.undo());
        Check.same("length", 12, beam.count(0));
        Check.same("unit", 12, beam.unit());
        Check.same("place of a load", 9, beam.weight(1, 1));
        beam.moveSupport(0, 1);
        beam.undo();
        Check.same("moveSupport", 0, beam.support(0, 0));
        Check.same("its line", 12, beam.reactionLine(0, 0));
        beam.moveHinge(0, 7);
        beam.undo();
        Check.same("moveHinge", 6, beam.hinge(0));
        beam.addLoad(5, 5);
        beam.undo();
        Check.same("addLoad", 3, beam.count(3));
        beam.dropLoad(0);
        beam.undo();
        Check.same("dropLoad", 3, beam.weight(0, 0));
        beam.addAxle(5, 5);
        beam.undo();
        Check.same("addAxle", 2, beam.count(4));
        beam.dropAxle(0);
        beam.undo();
        Check.same("dropAxle", 5, beam.axle(0, 0));
        beam.setBearing(1, 5);
        beam.undo();
        Check.same("setBearing", -1, beam.support(1, 1));
        beam.setMost(5);
        beam.undo();
        Check.same("setMost", 60, beam.count(5));
        beam.save(0);
        beam.setMost(5);
        beam.restore(0);
        beam.undo();
        Check.same("restore", 5, beam.count(5));
    }

    private static void promise42Save() {
        BeamLines beam = Texts.made(Texts.BRIDGE);
        beam.save(0);
        beam.setMost(7);
        beam.save(1);
        Check.noIndex("slot 2", () -> beam.save(2));
        Check.noIndex("slot -1", () -> beam.save(-1));
        Check.same("save is no change", 1, beam.undo());
        beam.restore(1);
        Check.same("slot 1", 7, beam.count(5));
        beam.restore(0);
        Check.same("slot 0", 60, beam.count(5));
        beam.setMost(8);
        beam.save(1);
        beam.restore(0);
        beam.restore(1);
        Check.same("in place of what was there", 8, beam.count(5));
    }

    private static void promise43Restore() {
        BeamLines beam = Texts.made(Texts.BRIDGE);
        Check.badState("nothing saved", () -> beam.restore(0));
        Check.noIndex("slot 2", () -> beam.restore(2));
        Check.noIndex("slot -1", () -> beam.restore(-1));
        beam.save(1);
        Check.badState("nothing in the other slot", () -> beam.restore(0));
        Texts.load(beam, "beam 20 most 7;support 3;support 9;load 2 at 20;");
        Check.same("supports then", 3, beam.restore(1));
        int[] due = {12, 3, 1, 3, 2, 60, 8, 7, 15};
        for (int what = 0; what < due.length; what++) {
            Check.same("count(" + what + ")", due[what], beam.count(what));
        }
        Check.same("unit", 12, beam.unit());
        Check.same("bearing", 9, beam.support(0, 1));
        Check.same("hinge", 6, beam.hinge(0));
        Check.same("load", 9, beam.weight(1, 1));
        Check.same("axle", 3, beam.axle(1, 1));
        beam.dropLoad(0);
        Check.same("it stays saved", 3, beam.restore(1));
        Check.same("as it was", 3, beam.count(3));
        Check.same("restore is a change", 4, beam.undo());
        Check.same("before it", 2, beam.count(3));
    }
}
