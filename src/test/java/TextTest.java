/** Promises 1 to 4, 44 and 45: texts that are read and written. */
final class TextTest {
    private static final String GOOD = "beam 10 most 5;support 2;support 8;";

    public static void main(String[] args) {
        promise1NewObject();
        promise2Append();
        promise3Load();
        promise3SyntaxErrors();
        promise3ValueErrors();
        promise3Twice();
        promise3TooMany();
        promise3ErrorsAtTheEnd();
        promise3ErrorKeepsBeam();
        promise4ErrorPosition();
        promise44WriteBeam();
        promise45WrittenByte();
        Check.end();
    }

    private static void promise1NewObject() {
        BeamLines beam = new BeamLines();
        int[] due = {10, 2, 0, 0, 0, 100, 0, 0, 0};
        for (int what = 0; what < due.length; what++) {
            Check.same("count(" + what + ") of a new beam", due[what], beam.count(what));
        }
        Check.same("left support", 0, beam.support(0, 0));
        Check.same("right support", 10, beam.support(1, 0));
        Check.same("left bearing", -1, beam.support(0, 1));
        Check.same("right bearing", -1, beam.support(1, 1));
        Check.same("unit", 10, beam.unit());
        Check.same("append to the empty buffer", 0, beam.append(0, 0, 0, 0, 0));
        Check.badState("restore(0)", () -> beam.restore(0));
        Check.badState("restore(1)", () -> beam.restore(1));
        Check.badState("undo", beam::undo);
        Check.noIndex("writtenByte(0)", () -> beam.writtenByte(0));
        Check.same("errorPosition", -1, beam.errorPosition());
    }

    private static void promise2Append() {
        BeamLines beam = new BeamLines();
        Check.same("no bytes", 0, beam.append(0, 0, 0, 0, 0));
        Check.same("20 bytes", 20, beam.append(-1, 0x20202020, 0x7f010203, 0x80808080, 0x01010101));
        Check.same("zeros are left out", 25, beam.append(0x00200000, 0x20000000, 0x00000020, 0x00002000, 0x00000001));
        BeamLines ordered = new BeamLines();
        ordered.append(0x62650061, 0x6d003230, 0x6d6f7374, 0x39390000, 0x3b000000);
        Texts.put(ordered, "support 0;support 20;");
        Check.same("read in order", 2, ordered.load());
        Check.same("length in order", 20, ordered.count(0));
        Check.same("MOST in order", 99, ordered.count(5));
        for (int length = 45; length <= 485; length += 20) {
            Check.same("append", length, beam.append(0x20202020, 0x20202020, 0x20202020, 0x20202020, 0x20202020));
        }
        Check.badState("501 bytes", () -> beam.append(0x20202020, 0x20202020, 0x20202020, 0x20202020, 0));
        Check.same("497 bytes", 497, beam.append(0x20202020, 0x20202020, 0x20202020, 0, 0));
        Check.badState("501 bytes again", () -> beam.append(0, 0, 0x20202020, 0, 0));
        Check.same("500 bytes", 500, beam.append(0, 0x20002020, 0, 0, 0));
        Check.same("still 500 bytes", 500, beam.append(0, 0, 0, 0, 0));
        Check.badState("one byte more", () -> beam.append(0, 0, 0, 0, 1));
        Check.same("still 500 bytes after it", 500, beam.append(0, 0, 0, 0, 0));
    }

    private static void promise3Load() {
        BeamLines beam = new BeamLines();
        Check.same("load", 3, Texts.load(beam, Texts.BRIDGE));
        Check.same("no error", -1, beam.errorPosition());
        Check.same("empty buffer", 0, beam.append(0, 0, 0, 0, 0));
        int[] due = {12, 3, 1, 3, 2, 60, 8, 7, 15};
        for (int what = 0; what < due.length; what++) {
            Check.same("count(" + what + ") of the bridge", due[what], beam.count(what));
        }
        Check.same("bearing", 9, beam.support(0, 1));
        Check.same("order of the supports", 3, Texts.load(beam,
                "beam 9 most 1;hinge 5;support 8 bears 7;load 1 at 0;support 0;support 3 bears 00099999;"));
        Check.same("left", 0, beam.support(0, 0));
        Check.same("left bears", -1, beam.support(0, 1));
        Check.same("middle", 3, beam.support(1, 0));
        Check.same("middle bears", 99999, beam.support(1, 1));
        Check.same("right", 8, beam.support(2, 0));
        Check.same("right bears", 7, beam.support(2, 1));
        Check.same("order of the hinges", 5, Texts.load(beam, "beam 30 most 999999;hinge 20;hinge 4;hinge 12;"
                + "support 0;support 5;support 10;support 19;support 30;"));
        Check.same("hinge 0", 4, beam.hinge(0));
        Check.same("hinge 1", 12, beam.hinge(1));
        Check.same("hinge 2", 20, beam.hinge(2));
        Check.same("no space where none must be", 2, Texts.load(beam, "beam2most1;support0bears1;support2;load999at2;axle999behind30;"));
        Check.same("spaces before all tokens", 2, Texts.load(beam, "  beam  0002  most  01  ;  support  0  bears  1  ;  support  2  ; "
                + " load  1  at  2  ;  axle  1  behind  0  ;  "));
    }

    private static void promise3SyntaxErrors() {
        error("", -2, 0);
        error("   ", -2, 3);
        error("Beam 10 most 5;", -2, 0);
        error("beamm 10 most 5;", -2, 0);
        error(" bea 10 most 5;", -2, 1);
        error("beam most 5;", -2, 5);
        error("beam 10 5;", -2, 8);
        error("beam 10 mostly 5;", -2, 8);
        error("beam 10 most;", -2, 12);
        error("beam 10 most 5", -2, 14);
        error("beam 10 most 5  ", -2, 16);
        error("beam 10 most 5 6;", -2, 15);
        error("beam 10 most 5;;", -2, 15);
        error("beam 10 most 5;\tsupport 0;", -2, 15);
        error("beam 10 most 5;supports 0;", -2, 15);
        error("beam 10 most 5;support;", -2, 22);
        error("beam 10 most 5;support -1;", -2, 23);
        error("beam 10 most 5;support 0 bears;", -2, 30);
        error("beam 10 most 5;support 0 bear 3;", -2, 25);
        error("beam 10 most 5;support 0 bears 3 bears 3;", -2, 33);
        error("beam 10 most 5;hinge 5 bears 3;", -2, 23);
        error("beam 10 most 5;load 5 behind 3;", -2, 22);
        error("beam 10 most 5;axle 5 at 3;", -2, 22);
        error("beam 10 most 5;load 5 3;", -2, 22);
        error("beam 10 most 5;load 5 at;", -2, 24);
        error("beam 10 most 5;load at 3;", -2, 20);
        error("beam 10 most 5;support 0;support 10", -2, 35);
        error("beam 10 most 5;support 0;support 10;x", -2, 36);
        error("beam 10 most 5;support 0;support 10;7", -2, 36);
        error("beam 10 most 5;support 0;support 10;\u00ff", -2, 36);
        error("beam 10 most 5;beam 10 most 5;", -2, 15);
        error("beam 10 most 5;xoad 1 at 1;", -2, 15);
        error("beam 10 most 5;load 1 bt 1;", -2, 22);
        // The signs just before and behind the letters and the digits.
        error("beamz 10 most 5;", -2, 0);
        error("beama 10 most 5;", -2, 0);
        error("beam{10 most 5;", -2, 4);
        error("beam`10 most 5;", -2, 4);
        error("beam 10/ most 5;", -2, 7);
        error("beam 10: most 5;", -2, 7);
    }

    private static void promise3ValueErrors() {
        error("beam 1 most 5;", -3, 5);
        error("beam 31 most 5;", -3, 5);
        error("beam 00031 most 5;", -3, 5);
        error("beam 4294967306 most 5;", -3, 5);
        error("beam 10 most 0;", -3, 13);
        error("beam 10 most 1000000;", -3, 13);
        error("beam 10 most 18446744073709551621;", -3, 13);
        error("beam 10 most 5;support 11;", -3, 23);
        error("beam 10 most 5;support 0 bears 0;", -3, 31);
        error("beam 10 most 5;support 0 bears 100000;", -3, 31);
        error("beam 10 most 5;hinge 0;", -3, 21);
        error("beam 10 most 5;hinge 10;", -3, 21);
        error("beam 10 most 5;support 0;hinge 0;", -3, 31);
        error("beam 10 most 5;load 0 at 1;", -3, 20);
        error("beam 10 most 5;load 1000 at 1;", -3, 20);
        error("beam 10 most 5;load 1 at 11;", -3, 25);
        error("beam 10 most 5;axle 0 behind 1;", -3, 20);
        error("beam 10 most 5;axle 1000 behind 1;", -3, 20);
        error("beam 10 most 5;axle 1 behind 31;", -3, 29);
        error("beam 10 most 5;load 1000 behind 1;", -3, 20);
        Check.same("the greatest numbers", 2, Texts.load(new BeamLines(), "beam 30 most 999999;support 0 bears 99999;support 30;"
                + "load 999 at 30;axle 999 behind 30;"));
    }

    private static void promise3Twice() {
        error("beam 10 most 5;support 0;support 00;", -4, 33);
        error("beam 10 most 5;support 4;hinge 4;", -4, 31);
        error("beam 10 most 5;hinge 4;support 4;", -4, 31);
        error("beam 10 most 5;hinge 4;hinge 4;", -4, 29);
        error("beam 10 most 5;hinge 4;hinge 4", -4, 29);
        error("beam 10 most 5;support 4;support 4 bears 0;", -4, 33);
        Check.same("loads at one place", 2, Texts.load(new BeamLines(), GOOD + "load 1 at 2;load 1 at 2;"));
    }

    private static void promise3TooMany() {
        String five = "beam 10 most 5;support 0;support 1;support 2;support 3;support 4;";
        error(five + "support", -5, 65);
        error(five + " support 4;", -5, 66);
        error(five + "supports", -2, 65);
        String three = "beam 10 most 5;hinge 1;hinge 2;hinge 3;";
        error(three + "hinge 3;", -5, 39);
        error(three + "hinge x", -5, 39);
        error(GOOD + "load 1 at 1;".repeat(8) + "load 1 at 1;", -5, 35 + 96);
        error(GOOD + "axle 1 behind 1;".repeat(6) + "axle 0", -5, 35 + 96);
        Check.same("8 loads", 2, Texts.load(new BeamLines(), GOOD + "load 1 at 1;".repeat(8)));
        Check.same("6 axles", 2, Texts.load(new BeamLines(), GOOD + "axle 1 behind 1;".repeat(6)));
    }

    private static void promise3ErrorsAtTheEnd() {
        error("beam 10 most 5;", -6, 15);
        error("beam 10 most 5;support 1;  ", -6, 27);
        error("beam 10 most 5;support 1;support 2;hinge 3;", -6, 43);
        error("beam 10 most 5;support 1;support 2;support 3;", -6, 45);
        error("beam 10 most 5;hinge 1;", -6, 23);
        // Right of the first hinge two parts have one support alone.
        error("beam 20 most 5;support 0;support 2;support 4;support 20;hinge 5;hinge 10; ", -7, 74);
        error("beam 12 most 50;support 2;support 4;support 6;hinge 8;", -7, 54);
        error("beam 12 most 50;support 2;support 4;support 6;hinge 1;", -7, 54);
        Check.same("a hinge at the last place but one", 3, Texts.load(new BeamLines(),
                "beam 12 most 1;support 0;support 4;support 12;hinge 11;"));
        Check.same("a beam that stands", 3, Texts.load(new BeamLines(), "beam 12 most 50;support 2;support 4;support 6;hinge 5;"));
    }

    private static void promise3ErrorKeepsBeam() {
        BeamLines beam = Texts.made(Texts.BRIDGE);
        String[] wrong = {"beam 20 most 7;support 1;support 2;load 5 at 3;axle 5 behind 2;x", "beam 12 most 9;support 2;",
            "beam 12 most 50;support 2;support 4;support 6;hinge 8;"};
        for (String text : wrong) {
            Texts.load(beam, text);
            Check.same("length stays", 12, beam.count(0));
            Check.same("supports stay", 3, beam.count(1));
            Check.same("loads stay", 3, beam.count(3));
            Check.same("axles stay", 2, beam.count(4));
            Check.same("MOST stays", 60, beam.count(5));
            Check.same("unit stays", 12, beam.unit());
            Check.same("the buffer is empty", 0, beam.append(0, 0, 0, 0, 0));
        }
        Check.same("an error is no change", 0, beam.undo());
    }

    private static void promise4ErrorPosition() {
        BeamLines beam = new BeamLines();
        Check.same("no call", -1, beam.errorPosition());
        Texts.load(beam, "beam x");
        Check.same("error", 5, beam.errorPosition());
        beam.append(1, 1, 1, 1, 1);
        beam.setMost(5);
        beam.undo();
        Check.same("still there", 5, beam.errorPosition());
        Check.same("empty text", -2, Texts.load(beam, ""));
        Check.same("the buffer held five bytes", 0, beam.errorPosition());
        Texts.load(beam, GOOD);
        Check.same("no error", -1, beam.errorPosition());
        Texts.load(beam, "beam 10 most 5;hinge 0;");
        beam.undo();
        Check.same("undo leaves it", 21, beam.errorPosition());
    }

    private static void promise44WriteBeam() {
        BeamLines beam = new BeamLines();
        Check.sameText("new beam", "^---------^", Texts.written(beam));
        beam = Texts.made(Texts.BRIDGE);
        Check.same("length", 13, beam.writeBeam());
        Check.sameText("bridge", "^-v-^-o--v--^", Texts.written(beam));
        Texts.load(beam, "beam 2 most 1;support 1;support 2;load 5 at 2;load 5 at 0;");
        Check.sameText("a load on a support", "v^^", Texts.written(beam));
        beam.addAxle(5, 0);
        beam.dropLoad(1);
        Check.sameText("axles are not written", "-^^", Texts.written(beam));
        Texts.load(beam, "beam 30 most 1;support 0;support 29;");
        Check.same("the longest", 31, beam.writeBeam());
        Check.sameText("the longest", "^" + "-".repeat(28) + "^-", Texts.written(beam));
    }

    private static void promise45WrittenByte() {
        BeamLines beam = new BeamLines();
        Check.noIndex("before any text", () -> beam.writtenByte(0));
        beam.writeBeam();
        Check.same("first", '^', beam.writtenByte(0));
        Check.same("second", '-', beam.writtenByte(1));
        Check.same("last", '^', beam.writtenByte(10));
        Check.noIndex("behind the last", () -> beam.writtenByte(11));
        Check.noIndex("before the first", () -> beam.writtenByte(-1));
        Check.noIndex("far off", () -> beam.writtenByte(Integer.MAX_VALUE));
        beam.addLoad(1, 1);
        Texts.load(beam, "beam 30 most 1;support 0;support 29;");
        Check.same("not written anew", '-', beam.writtenByte(1));
        Check.noIndex("still as long", () -> beam.writtenByte(11));
        beam.undo();
        Check.same("undo leaves it", '-', beam.writtenByte(1));
        Texts.load(beam, "beam 2 most 1;support 0;support 2;");
        beam.writeBeam();
        Check.noIndex("shorter then", () -> beam.writtenByte(3));
    }

    private static void error(String text, int code, int position) {
        BeamLines beam = new BeamLines();
        Check.same("load of " + text, code, Texts.load(beam, text));
        Check.same("errorPosition of " + text, position, beam.errorPosition());
    }
}
