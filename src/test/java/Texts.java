import java.nio.charset.StandardCharsets;

/** Puts texts into the buffer of a beam, and takes written ones out. */
final class Texts {
    /** Three supports, one hinge, three loads and a train of two axles. */
    static final String BRIDGE = "beam 12 most 60; support 0 bears 9; support 4; support 12 bears 20; hinge 6;"
            + " load 3 at 2; load 4 at 9; load 1 at 6; axle 5 behind 0; axle 2 behind 3;";

    private Texts() {
    }

    static void put(BeamLines beam, String text) {
        byte[] bytes = text.getBytes(StandardCharsets.ISO_8859_1);
        for (int start = 0; start < bytes.length; start += 20) {
            beam.append(four(bytes, start), four(bytes, start + 4), four(bytes, start + 8),
                    four(bytes, start + 12), four(bytes, start + 16));
        }
    }

    static int load(BeamLines beam, String text) {
        put(beam, text);
        return beam.load();
    }

    static BeamLines made(String text) {
        BeamLines beam = new BeamLines();
        if (load(beam, text) < 0) {
            throw new AssertionError("error " + beam.errorPosition() + " in " + text);
        }
        return beam;
    }

    /** The bridge, with three changes that can be undone, one slot saved, a text written, one in the buffer and an error told. */
    static BeamLines busy() {
        return busy(BRIDGE);
    }

    static BeamLines busy(String text) {
        BeamLines beam = new BeamLines();
        beam.save(1);
        load(beam, text);
        int most = beam.setMost(59);
        beam.setMost(most);
        beam.writeBeam();
        load(beam, "beam x");
        put(beam, "beam 9 most 8;support 1;support 7;load 3 at 4;");
        return beam;
    }

    /** What a new beam answers to a text: its supports or the error code, and the position of the error. */
    static String told(String text) {
        BeamLines beam = new BeamLines();
        return load(beam, text) + " at " + beam.errorPosition();
    }

    /** A text with spaces at its end, so that it has this length. */
    static String padded(String text, int length) {
        return text + " ".repeat(length - text.length());
    }

    static String written(BeamLines beam) {
        StringBuilder text = new StringBuilder();
        int length = beam.writeBeam();
        for (int index = 0; index < length; index++) {
            text.append((char) beam.writtenByte(index));
        }
        return text.toString();
    }

    private static int four(byte[] bytes, int start) {
        int four = 0;
        for (int index = start; index < start + 4; index++) {
            four = four << 8 | (index < bytes.length ? bytes[index] & 255 : 0);
        }
        return four;
    }
}
