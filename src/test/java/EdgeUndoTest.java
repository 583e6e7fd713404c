/** Terms 5 and 6 and the promises 41 to 43: what is a change, how many can be undone, what is saved. */
final class EdgeUndoTest {
    private static final String OTHER = "beam 20 most 7;support 3;support 9 bears 4;load 2 at 20;axle 5 behind 4;";
    private static final String[] NAMES = {"load", "moveSupport", "moveHinge", "addLoad", "dropLoad", "addAxle", "dropAxle", "setBearing",
        "setMost", "restore"};
    private static final Same.Use[] CHANGES = {beam -> Texts.load(beam, OTHER), beam -> beam.moveSupport(1, 3), beam -> beam.moveHinge(0, 7),
        beam -> beam.addLoad(5, 12), beam -> beam.dropLoad(0), beam -> beam.addAxle(5, 30), beam -> beam.dropAxle(1),
        beam -> beam.setBearing(1, 99), beam -> beam.setMost(8), beam -> beam.restore(1)};
    /** These are changes, too, though nothing is another one behind them. */
    private static final Same.Use[] NO_OTHERS = {beam -> Texts.load(beam, Texts.BRIDGE), beam -> beam.moveSupport(1, 4),
        beam -> beam.moveHinge(0, 6), beam -> beam.setBearing(1, -1), beam -> beam.setMost(60), beam -> beam.restore(0)};

    public static void main(String[] args) {
        terms5AllChanges();
        terms5ChangesWithNothingAnother();
        terms5ErrorsAndRefusalsAreNoChanges();
        terms5OtherCallsAreNoChanges();
        terms5LatestEight();
        terms5EachChangePushesOutTheOldest();
        terms5BringsBackEverything();
        terms5UndoLeavesTheBuffer();
        terms5UndoLeavesThePositionOfTheError();
        terms5UndoLeavesTheWrittenText();
        terms5UndoLeavesWhatIsSaved();
        terms5Reasons();
        terms6ThingsWithANumber();
        terms6FirstNamedException();
        promise41NothingToUndo();
        promise41HowManyAreLeft();
        promise41NoRedo();
        promise42Slots();
        promise42InPlaceOfTheOldOne();
        promise42NotWhatCanBeUndone();
        promise43Slots();
        promise43NothingSaved();
        promise43StaysSaved();
        promise43NumberOfSupports();
        Check.end();
    }

    /** The bridge, of which nothing can be undone that made it another one; a text of its own lies in no slot. */
    private static BeamLines plain() {
        BeamLines beam = new BeamLines();
        beam.save(1);
        Texts.load(beam, Texts.BRIDGE);
        beam.save(0);
        return beam;
    }

    private static long saved(BeamLines beam, int slot) {
        beam.save(slot);
        return 0;
    }

    /** As many changes have been made as this, each with a MOST of its own: 101, 102 and so on. */
    private static BeamLines withChanges(int changes) {
        BeamLines beam = new BeamLines();
        for (int number = 1; number <= changes; number++) {
            beam.setMost(100 + number);
        }
        return beam;
    }

    // ---- terms 5

    private static void terms5AllChanges() {
        Check.under("terms 5, the changes are all calls of these that succeed");
        for (int kind = 0; kind < CHANGES.length; kind++) {
            BeamLines beam = plain();
            CHANGES[kind].on(beam);
            Check.same(NAMES[kind] + " made another beam", 0, Look.present(plain()).equals(Look.present(beam)) ? 1 : 0);
            BeamLines undone = plain();
            CHANGES[kind].on(undone);
            Check.same(NAMES[kind] + " can be undone", 1, undone.undo());
            Check.sameText(NAMES[kind] + " is undone", Look.present(plain()), Look.present(undone));
            BeamLines all = plain();
            CHANGES[kind].on(all);
            all.undo();
            Check.sameText("before " + NAMES[kind], Look.past(plain()), Look.past(all));
        }
    }

    private static void terms5ChangesWithNothingAnother() {
        Check.under("terms 5, also if nothing is another one then");
        for (Same.Use change : NO_OTHERS) {
            BeamLines beam = plain();
            change.on(beam);
            Check.sameText("the beam", Look.present(plain()), Look.present(beam));
            BeamLines undone = plain();
            change.on(undone);
            Check.same("it can be undone", 1, undone.undo());
            Check.sameText("the beam then", Look.present(plain()), Look.present(undone));
        }
    }

    private static void terms5ErrorsAndRefusalsAreNoChanges() {
        Check.under("terms 5, a text with an error is no change, nor is a refusal");
        for (String text : new String[] {"", "x", "beam 1 most 9;", "beam 9 most 9;support 1;support 1;", "beam 9 most 9;support 1;",
            "beam 9 most 9;support 1;support 2;support 3;hinge 4;"}) {
            BeamLines beam = withChanges(8);
            Texts.load(beam, text);
            Check.same("behind " + text, 7, beam.undo());
            Check.same("MOST behind " + text, 107, beam.count(5));
        }
        Same.answers("-11", -11, Texts::busy, beam -> beam.moveSupport(0, 4));
        Same.answers("-12", -12, Texts::busy, beam -> beam.moveSupport(2, 5));
        Same.answers("-11", -11, Texts::busy, beam -> beam.moveHinge(0, 4));
        String loads = "beam 10 most 7;support 0;support 10;" + "load 1 at 1;".repeat(8) + "axle 1 behind 1;".repeat(6);
        Same.answers("-13", -13, () -> Texts.busy(loads), beam -> beam.addLoad(1, 1));
        Same.answers("-14", -14, () -> Texts.busy(loads), beam -> beam.addAxle(1, 1));
    }

    private static void terms5OtherCallsAreNoChanges() {
        Check.under("terms 5, no other call is a change");
        Same.Use[] uses = {BeamLines::errorPosition, beam -> beam.count(0), BeamLines::unit, beam -> beam.support(0, 0), beam -> beam.hinge(0),
            beam -> beam.weight(0, 0), beam -> beam.axle(0, 0), beam -> beam.part(0), beam -> beam.reactionLine(0, 3),
            beam -> beam.shearLine(0, 3), beam -> beam.momentLine(4, 3), beam -> beam.area(4), beam -> beam.still(4), beam -> beam.gap(4, 4),
            beam -> beam.reaction(0, 3), beam -> beam.shear(0, 3), beam -> beam.moment(4, 3), beam -> beam.worstForReaction(0, true),
            beam -> beam.worstForShear(0, true), beam -> beam.worstForMoment(4, false), BeamLines::worstSection, beam -> beam.danger(5),
            BeamLines::firstDanger, BeamLines::lifting, beam -> (long) beam.share(0, 3), beam -> (long) beam.used(),
            beam -> beam.tryHinge(0, 3), beam -> beam.bestHinge(0), BeamLines::strongest, beam -> beam.writtenByte(3)};
        for (int number = 0; number < uses.length; number++) {
            Same.leavesAll("the call " + number, Texts::busy, uses[number]);
        }
        BeamLines beam = withChanges(8);
        beam.append(-1, 0, 0, 0, 0);
        beam.writeBeam();
        beam.save(0);
        Check.same("append, writeBeam and save", 7, beam.undo());
        Check.same("MOST", 107, beam.count(5));
        Check.same("undo itself", 6, beam.undo());
        Check.same("MOST then", 106, beam.count(5));
    }

    private static void terms5LatestEight() {
        Check.under("terms 5, the latest 8 changes can be undone, older ones cannot any more");
        for (int changes : new int[] {0, 1, 7, 8, 9, 10, 17, 30}) {
            BeamLines beam = withChanges(changes);
            int kept = Math.min(changes, 8);
            for (int left = kept - 1; left >= 0; left--) {
                Check.same("left of " + changes, left, beam.undo());
                Check.same("MOST with " + left + " left", 100 + changes - kept + left, beam.count(5));
            }
            Check.badState("one more of " + changes, beam::undo);
            Check.same("MOST at last", 100 + changes - kept, beam.count(5));
        }
    }

    private static void terms5EachChangePushesOutTheOldest() {
        Check.under("terms 5, with each change the oldest one of 8 cannot be undone any more");
        for (int kind = 0; kind < CHANGES.length; kind++) {
            BeamLines beam = plain();
            for (int most = 51; most <= 58; most++) {
                beam.setMost(most);
            }
            CHANGES[kind].on(beam);
            for (int left = 7; left >= 0; left--) {
                Check.same(NAMES[kind] + ", left", left, beam.undo());
            }
            Check.same(NAMES[kind] + ", MOST of the oldest one", 51, beam.count(5));
            Check.badState(NAMES[kind] + ", one more", beam::undo);
        }
    }

    private static void terms5BringsBackEverything() {
        Check.under("terms 5, undoing a change brings back everything as it was before it");
        BeamLines beam = plain();
        // One of each kind but load and restore, one upon the other.
        for (int kind = 1; kind <= 8; kind++) {
            CHANGES[kind].on(beam);
        }
        for (int left = 7; left >= 0; left--) {
            Check.same("left", left, beam.undo());
        }
        Check.sameText("all eight undone", Look.present(plain()), Look.present(beam));
        BeamLines both = plain();
        Texts.load(both, OTHER);
        both.restore(1);
        both.undo();
        Check.sameText("restore undone", Look.present(Texts.made(OTHER)), Look.present(both));
        both.undo();
        Check.sameText("load undone", Look.present(plain()), Look.present(both));
    }

    private static void terms5UndoLeavesTheBuffer() {
        Check.under("terms 5, but not the text buffer");
        BeamLines beam = plain();
        Texts.put(beam, "beam 9 most 8;");
        beam.setMost(9);
        Texts.put(beam, "support 1;support 7;");
        beam.undo();
        Check.same("its length", 34, beam.append(0, 0, 0, 0, 0));
        Check.same("its text", 2, beam.load());
        beam.undo();
        Check.same("what was read does not come back", 0, beam.append(0, 0, 0, 0, 0));
    }

    private static void terms5UndoLeavesThePositionOfTheError() {
        Check.under("terms 5, but not the position of the error");
        BeamLines beam = plain();
        beam.setMost(9);
        Texts.load(beam, "beam x");
        beam.undo();
        Check.same("an error later than the change", 5, beam.errorPosition());
        Texts.load(beam, OTHER);
        beam.undo();
        Check.same("the load that is undone found none", -1, beam.errorPosition());
    }

    private static void terms5UndoLeavesTheWrittenText() {
        Check.under("terms 5, but not the written text");
        BeamLines beam = plain();
        beam.writeBeam();
        Texts.load(beam, OTHER);
        beam.writeBeam();
        beam.undo();
        Check.sameText("that of the other beam", "written: ---^-----^----------v", Look.written(beam));
    }

    private static void terms5UndoLeavesWhatIsSaved() {
        Check.under("terms 5, and not what was saved");
        BeamLines beam = plain();
        beam.setMost(9);
        beam.save(0);
        beam.undo();
        Check.same("MOST", 60, beam.count(5));
        beam.restore(0);
        Check.same("MOST of what was saved behind the change", 9, beam.count(5));
        beam.undo();
        Check.same("MOST before restore", 60, beam.count(5));
    }

    private static void terms5Reasons() {
        Check.under("terms 5, refused calls return -10 minus the reason");
        Check.same("1: a support", -11, plain().moveHinge(0, 4));
        Check.same("1: a hinge", -11, plain().moveSupport(0, 6));
        Check.same("1: another support", -11, plain().moveSupport(0, 4));
        Check.same("2", -12, plain().moveSupport(2, 5));
        BeamLines beam = plain();
        for (int number = 3; number < 8; number++) {
            beam.addLoad(1, 1);
        }
        Check.same("3", -13, beam.addLoad(1, 1));
        for (int number = 2; number < 6; number++) {
            beam.addAxle(1, 1);
        }
        Check.same("4", -14, beam.addAxle(1, 1));
    }

    // ---- terms 6

    private static void terms6ThingsWithANumber() {
        Check.under("terms 6, a thing with a number that does not exist");
        Same.Use[] uses = {beam -> beam.support(3, 0), beam -> beam.hinge(1), beam -> beam.weight(3, 0), beam -> beam.axle(2, 0),
            beam -> beam.part(13), beam -> beam.shearLine(12, 0), beam -> saved(beam, 2), beam -> beam.restore(2), beam -> beam.writtenByte(13)};
        for (int number = 0; number < uses.length; number++) {
            Same.noIndex("the call " + number, Texts::busy, uses[number]);
        }
    }

    private static void terms6FirstNamedException() {
        Check.under("terms 6, of several exceptions the one named first");
        Same.Use[] uses = {beam -> beam.support(3, 2), beam -> beam.weight(3, 2), beam -> beam.axle(2, 2), beam -> beam.reaction(3, 16),
            beam -> beam.shear(12, 16), beam -> beam.moment(13, 16), beam -> (long) beam.share(3, 16), beam -> beam.tryHinge(1, 0),
            beam -> beam.moveHinge(1, 0), beam -> beam.addLoad(0, 13), beam -> beam.setBearing(3, 0), beam -> beam.restore(2)};
        for (int number = 0; number < uses.length; number++) {
            Same.noIndex("the call " + number, Texts::busy, uses[number]);
        }
    }

    // ---- promises 41 to 43

    private static void promise41NothingToUndo() {
        Check.under("promise 41, there is no change to undo");
        Same.badState("a new beam", BeamLines::new, BeamLines::undo);
        Same.badState("all undone", () -> {
            BeamLines beam = Texts.busy();
            beam.undo();
            beam.undo();
            beam.undo();
            return beam;
        }, BeamLines::undo);
        Same.badState("8 of 9 undone", () -> {
            BeamLines beam = withChanges(9);
            for (int left = 8; left > 0; left--) {
                beam.undo();
            }
            return beam;
        }, BeamLines::undo);
    }

    private static void promise41HowManyAreLeft() {
        Check.under("promise 41, the number of changes that can still be undone");
        Check.same("the only one", 0, withChanges(1).undo());
        Check.same("two", 1, withChanges(2).undo());
        Check.same("eight", 7, withChanges(8).undo());
        Check.same("nine", 7, withChanges(9).undo());
        Check.same("many", 7, withChanges(100).undo());
    }

    private static void promise41NoRedo() {
        Check.under("promise 41, the latest change that has not been undone");
        BeamLines beam = withChanges(3);
        Check.same("the third", 2, beam.undo());
        beam.setMost(7);
        Check.same("another third", 2, beam.undo());
        Check.same("MOST", 102, beam.count(5));
        Check.same("the second", 1, beam.undo());
        Check.same("MOST", 101, beam.count(5));
        BeamLines full = withChanges(9);
        full.undo();
        full.undo();
        full.setMost(7);
        full.setMost(8);
        full.setMost(9);
        for (int left = 7; left >= 0; left--) {
            Check.same("left", left, full.undo());
        }
        Check.same("the oldest one went with the third", 102, full.count(5));
    }

    private static void promise42Slots() {
        Check.under("promise 42, a slot of 0 or 1");
        BeamLines beam = new BeamLines();
        beam.save(0);
        beam.setMost(5);
        beam.save(1);
        beam.restore(0);
        Check.same("slot 0", 100, beam.count(5));
        beam.restore(1);
        Check.same("slot 1", 5, beam.count(5));
        for (int slot : new int[] {-1, 2, Integer.MIN_VALUE, -256, 256, Integer.MAX_VALUE}) {
            Same.noIndex("slot " + slot, Texts::busy, one -> saved(one, slot));
        }
    }

    private static void promise42InPlaceOfTheOldOne() {
        Check.under("promise 42, in place of what was saved there");
        BeamLines beam = plain();
        beam.setMost(9);
        beam.save(1);
        beam.setMost(10);
        beam.restore(1);
        Check.same("MOST", 9, beam.count(5));
        Check.same("a beam of the same length as the latest one saved", 12, beam.count(0));
        beam.restore(0);
        Check.same("the other slot stays", 60, beam.count(5));
    }

    private static void promise42NotWhatCanBeUndone() {
        Check.under("promise 42, but not what can be undone");
        BeamLines beam = withChanges(5);
        beam.save(0);
        beam.undo();
        beam.undo();
        beam.undo();
        beam.restore(0);
        Check.same("MOST", 105, beam.count(5));
        Check.same("restore alone came upon two changes", 2, beam.undo());
        Check.same("MOST before it", 102, beam.count(5));
    }

    private static void promise43Slots() {
        Check.under("promise 43, no such slot");
        for (int slot : new int[] {-1, 2, Integer.MIN_VALUE, -256, 256, Integer.MAX_VALUE}) {
            Same.noIndex("slot " + slot, Texts::busy, beam -> beam.restore(slot));
            Same.noIndex("slot " + slot + ", nothing saved at all", BeamLines::new, beam -> beam.restore(slot));
        }
    }

    private static void promise43NothingSaved() {
        Check.under("promise 43, nothing is saved there");
        Same.badState("slot 0", BeamLines::new, beam -> beam.restore(0));
        Same.badState("slot 1", BeamLines::new, beam -> beam.restore(1));
        Same.badState("slot 0 with slot 1 saved", Texts::busy, beam -> beam.restore(0));
        Same.badState("slot 1 with slot 0 saved", () -> {
            BeamLines beam = new BeamLines();
            beam.save(0);
            return beam;
        }, beam -> beam.restore(1));
    }

    private static void promise43StaysSaved() {
        Check.under("promise 43, which stays saved");
        BeamLines beam = plain();
        for (int times = 0; times < 3; times++) {
            Texts.load(beam, OTHER);
            Check.same("supports", 3, beam.restore(0));
            beam.setBearing(0, 77);
            beam.moveSupport(1, 3);
            beam.moveHinge(0, 9);
            beam.dropLoad(0);
            beam.dropAxle(0);
            beam.setMost(5);
        }
        beam.restore(0);
        Check.sameText("the same as at first", Look.present(plain()), Look.present(beam));
    }

    private static void promise43NumberOfSupports() {
        Check.under("promise 43, the number of supports then");
        BeamLines beam = plain();
        Check.same("slot 1", 2, beam.restore(1));
        Check.same("slot 0", 3, beam.restore(0));
        Texts.load(beam, "beam 30 most 9;support 2;support 8;support 14;support 20;support 26;hinge 9;hinge 15;hinge 21;");
        beam.save(1);
        beam.restore(0);
        Check.same("slot 1 again", 5, beam.restore(1));
    }
}
