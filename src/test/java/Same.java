/** Of two beams made alike one is asked for something: then both must still look the same in all regards. */
final class Same {
    interface Making {
        BeamLines beam();
    }

    interface Use {
        long on(BeamLines beam);
    }

    private Same() {
    }

    /** That a call answers this, a refusal for instance, and changes nothing. */
    static void answers(String what, long due, Making making, Use use) {
        Check.same(what, due, use.on(making.beam()));
        leavesAll(what, making, use);
    }

    static void noIndex(String what, Making making, Use use) {
        BeamLines beam = making.beam();
        Check.noIndex(what, () -> use.on(beam));
        leavesAll(what, making, use);
    }

    static void badArgument(String what, Making making, Use use) {
        BeamLines beam = making.beam();
        Check.badArgument(what, () -> use.on(beam));
        leavesAll(what, making, use);
    }

    static void badState(String what, Making making, Use use) {
        BeamLines beam = making.beam();
        Check.badState(what, () -> use.on(beam));
        leavesAll(what, making, use);
    }

    /** That a text with an error leaves the beam, and the buffer empty. */
    static void readingFails(String text, int code, int position) {
        Making making = () -> {
            BeamLines beam = Texts.busy();
            Texts.load(beam, "x");
            return beam;
        };
        BeamLines beam = making.beam();
        Check.same("load of " + text, code, Texts.load(beam, text));
        Check.same("errorPosition of " + text, position, beam.errorPosition());
        Check.same("the buffer behind " + text, 0, beam.append(0, 0, 0, 0, 0));
        leaves(text, Look.ALL_BUT_THE_TEXT_READ, making, other -> Texts.load(other, text));
    }

    static void leavesAll(String what, Making making, Use use) {
        leaves(what, Look.ALL, making, use);
    }

    private static void leaves(String what, Look.Kind[] looks, Making making, Use use) {
        for (Look.Kind look : looks) {
            BeamLines asked = making.beam();
            ask(asked, use);
            Check.sameText("behind " + what, look.at(making.beam()), look.at(asked));
        }
    }

    private static void ask(BeamLines beam, Use use) {
        try {
            use.on(beam);
        } catch (RuntimeException e) {
            // Which exception is due is checked before; here only what is left behind counts.
            return;
        }
    }
}
