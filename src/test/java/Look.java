/** What a beam answers about itself, as texts: two beams are the same in some regard if they look the same. */
final class Look {
    interface Kind {
        String at(BeamLines beam);
    }

    /** A look for all that undo does not bring back and for all that it does; each spoils the beam for the next look. */
    static final Kind[] ALL = {Look::present, Look::past, Look::saved, Look::written, Look::error, Look::buffer};
    /** All that a text with an error must leave as it was. */
    static final Kind[] ALL_BUT_THE_TEXT_READ = {Look::present, Look::past, Look::saved, Look::written};

    private Look() {
    }

    static String present(BeamLines beam) {
        return numbers(beam) + forces(beam);
    }

    /** Undoes all that can be undone. */
    static String past(BeamLines beam) {
        StringBuilder text = new StringBuilder("past: " + numbers(beam));
        for (int undone = 0; undone < 10; undone++) {
            int left;
            try {
                left = beam.undo();
            } catch (IllegalStateException e) {
                return text.append(" no more").toString();
            }
            text.append(" | ").append(left).append(": ").append(numbers(beam));
        }
        return text.toString();
    }

    static String saved(BeamLines beam) {
        StringBuilder text = new StringBuilder("saved:");
        for (int slot = 0; slot < 2; slot++) {
            try {
                text.append(" | ").append(beam.restore(slot)).append(numbers(beam));
            } catch (IllegalStateException e) {
                text.append(" nothing");
            }
        }
        return text.toString();
    }

    static String written(BeamLines beam) {
        StringBuilder text = new StringBuilder("written: ");
        for (int index = 0; index < 40; index++) {
            try {
                text.append((char) beam.writtenByte(index));
            } catch (IndexOutOfBoundsException e) {
                return text.toString();
            }
        }
        return text.toString();
    }

    static String error(BeamLines beam) {
        return "error at " + beam.errorPosition();
    }

    /** Reads what is in the buffer. */
    static String buffer(BeamLines beam) {
        int length = beam.append(0, 0, 0, 0, 0);
        return "buffer: " + length + " bytes, read: " + beam.load() + " at " + beam.errorPosition() + ": " + numbers(beam);
    }

    private static String numbers(BeamLines beam) {
        StringBuilder text = new StringBuilder("unit " + beam.unit());
        for (int what = 0; what <= 8; what++) {
            text.append(", ").append(beam.count(what));
        }
        for (int i = 0; i < beam.count(1); i++) {
            text.append("; support ").append(beam.support(i, 0)).append(" bears ").append(beam.support(i, 1));
        }
        for (int i = 0; i < beam.count(2); i++) {
            text.append("; hinge ").append(beam.hinge(i));
        }
        for (int i = 0; i < beam.count(3); i++) {
            text.append("; load ").append(beam.weight(i, 0)).append(" at ").append(beam.weight(i, 1));
        }
        for (int i = 0; i < beam.count(4); i++) {
            text.append("; axle ").append(beam.axle(i, 0)).append(" behind ").append(beam.axle(i, 1));
        }
        return text.toString();
    }

    private static String forces(BeamLines beam) {
        StringBuilder text = new StringBuilder("; reactions");
        for (int i = 0; i < beam.count(1); i++) {
            text.append(' ').append(beam.reaction(i, -1)).append(' ').append(beam.reaction(i, beam.count(8)));
            for (int x = 0; x <= beam.count(0); x++) {
                text.append(' ').append(beam.reactionLine(i, x));
            }
        }
        return text.toString();
    }
}
