/** Terms 4 and the promises 1 to 4, 44 and 45: the bounds of texts that are read and written. */
final class EdgeTextTest {
    private static final String HEAD = "beam 10 most 9;";
    private static final String GOOD = HEAD + "support 2;support 8;";
    private static final String THREE = HEAD + "support 2;support 4;support 6;";

    public static void main(String[] args) {
        terms4Room();
        terms4FullestBeam();
        terms4NoStatements();
        terms4PartsThatMayLack();
        terms4LongestWords();
        terms4LongestNumbers();
        terms4Spaces();
        terms4BytesThatAreNotAllowed();
        terms4TokensThatAreNotAllowed();
        terms4UnexpectedEnd();
        terms4ValueErrors();
        terms4Twice();
        terms4TooMany();
        terms4WrongHinges();
        terms4Falls();
        terms4FirstErrorOfSeveral();
        terms4SeveralErrorsAtOnePlace();
        promise1SameAsTheText();
        promise1EmptyBufferAndNothingSaved();
        promise2OrderOfTheBytes();
        promise2ZerosAreLeftOut();
        promise2GreatestBytes();
        promise2LengthOf500();
        promise2TooLong();
        promise2EachByteAtTheEdge();
        promise2AfterLoad();
        promise3NumberOfSupports();
        promise3ErrorKeepsThePresentBeam();
        promise3BufferIsEmptyAfterwards();
        promise3EmptyBuffer();
        promise4NoCall();
        promise4LatestCall();
        promise44BytesOfAllPlaces();
        promise44InPlaceOfTheOldText();
        promise44Length();
        promise45NoneAtFirst();
        promise45Index();
        promise45TextThatWasWritten();
        Check.end();
    }

    private static void tells(String due, String text) {
        Check.sameText(text, due, Texts.told(text));
    }

    private static void reads(String text) {
        tells("2 at -1", text);
    }

    private static void syntax(int position, String text) {
        tells("-2 at " + position, text);
    }

    // ---- terms 4

    private static void terms4Room() {
        Check.under("terms 4, a text of at most 500 bytes");
        reads(Texts.padded(GOOD, 499));
        reads(Texts.padded(GOOD, 500));
        syntax(499, Texts.padded(GOOD, 499) + "x");
        syntax(500, Texts.padded(GOOD + "hinge", 500));
        tells("-6 at 500", Texts.padded(GOOD + "hinge 5;", 500));
        tells("-7 at 500", Texts.padded(THREE + "hinge 7;", 500));
        reads("beam " + "0".repeat(465) + "10 most 9;support 2;support 8;");
    }

    private static void terms4FullestBeam() {
        Check.under("terms 4, as many statements as there may be");
        String text = "beam 30 most 999999;" + "load 999 at 30;".repeat(8) + "axle 999 behind 30;".repeat(6) + "hinge 15;hinge 16;hinge 27;"
                + "support 26 bears 99999;support 28 bears 99999;support 29 bears 99999;support 13 bears 99999;support 14 bears 99999;";
        tells("-5 at " + text.length(), text + "load 1 at 1;");
        tells("5 at -1", text);
        BeamLines beam = Texts.made(text);
        int[] due = {30, 5, 3, 8, 6, 999999, 7992, 5994, 60};
        for (int what = 0; what < due.length; what++) {
            Check.same("count(" + what + ")", due[what], beam.count(what));
        }
    }

    private static void terms4NoStatements() {
        Check.under("terms 4, any number of statements");
        tells("-6 at 15", HEAD);
        reads(GOOD);
        reads(HEAD + "load 1 at 1;axle 1 behind 1;support 8;load 2 at 1;support 2;axle 1 behind 0;");
    }

    private static void terms4PartsThatMayLack() {
        Check.under("terms 4, brackets mean that a part may lack");
        BeamLines beam = Texts.made(HEAD + "support 2 bears 7;support 8;");
        Check.same("with it", 7, beam.support(0, 1));
        Check.same("without it", -1, beam.support(1, 1));
        syntax(33, HEAD + "support 2 bears 7 bears 7;support 8;");
        syntax(25, HEAD + "support 2 7;support 8;");
        syntax(23, HEAD + "support bears 7;support 8;");
    }

    private static void terms4LongestWords() {
        Check.under("terms 4, a word is the longest possible sequence of letters");
        syntax(0, "beamx 10 most 9;");
        syntax(0, "bea 10 most 9;");
        syntax(8, "beam 10 mostx 9;");
        syntax(15, HEAD + "supports 2;");
        syntax(15, HEAD + "suppor t 2;");
        syntax(15, HEAD + "hinges 2;");
        syntax(15, HEAD + "loads 2 at 2;");
        syntax(15, HEAD + "axles 2 behind 2;");
        syntax(22, HEAD + "load 2 ata 2;");
        syntax(22, HEAD + "axle 2 behindz 2;");
        syntax(25, HEAD + "support 2 bearsa 2;");
        reads("beam10most9;support2bears3;support8;load1at2;axle1behind2;");
    }

    private static void terms4LongestNumbers() {
        Check.under("terms 4, N is the longest possible sequence of digits, zeros at its beginning do not matter");
        reads("beam 000000000000000000010 most 0009;support 02;support 08 bears 0099999;load 00999 at 00;axle 0999 behind 030;");
        syntax(8, "beam 10 0 most 9;");
        tells("-3 at 5", "beam 1 0 most 9;");
        tells("-3 at 5", "beam 00 most 9;");
        tells("-3 at 5", "beam 0000000000000000000031 most 9;");
        // These would come back into their range if they were reckoned with 32 or 64 bits.
        tells("-3 at 5", "beam 4294967298 most 9;");
        tells("-3 at 5", "beam 18446744073709551626 most 9;");
        tells("-3 at 13", "beam 10 most 4294967297;");
        tells("-3 at 23", HEAD + "support 4294967296;");
        tells("-3 at 31", HEAD + "support 2 bears 4294967297;");
        tells("-3 at 20", HEAD + "axle 18446744073709551617 behind 1;");
        tells("-3 at 5", "beam " + "9".repeat(495));
    }

    private static void terms4Spaces() {
        Check.under("terms 4, spaces may stand in front of every token and at the end");
        reads("  beam  10  most  9  ;  support  2  bears  7  ;  support  8  ;  load  1  at  1  ;  axle  1  behind  1  ;  ");
        reads("beam10most9;support2;support8;");
        syntax(0, "be am 10 most 9;");
        syntax(22, HEAD + "load 1 a t 1;");
        syntax(3, "   ");
    }

    private static void terms4BytesThatAreNotAllowed() {
        Check.under("terms 4, a byte that is not allowed here");
        for (int one = 1; one <= 255; one++) {
            if (one == ' ') {
                continue;
            }
            boolean isLetter = one >= 'a' && one <= 'z';
            boolean isDigit = one >= '0' && one <= '9';
            syntax(35, GOOD + (char) one);
            if (!isDigit) {
                syntax(isLetter ? 0 : 4, "beam" + (char) one + " 10 most 9;");
                syntax(7, "beam 10" + (char) one + " most 9;");
            }
        }
        syntax(15, HEAD + "Support 2;");
        syntax(23, HEAD + "support -2;");
        syntax(24, HEAD + "support 2.;");
        syntax(24, HEAD + "support 2\n;");
    }

    private static void terms4TokensThatAreNotAllowed() {
        Check.under("terms 4, a token that is not allowed here, at its first byte");
        syntax(0, "10 beam most 9;");
        syntax(0, ";beam 10 most 9;");
        syntax(5, "beam most 9;");
        syntax(5, "beam ;");
        syntax(7, "beam 10;");
        syntax(8, "beam 10 9;");
        syntax(13, "beam 10 most ;");
        syntax(15, "beam 10 most 9 support 2;");
        syntax(15, HEAD + ";");
        syntax(15, HEAD + "beam 10 most 9;");
        syntax(15, HEAD + "most 9;");
        syntax(15, HEAD + "bears 9;");
        syntax(15, HEAD + "at 9;");
        syntax(15, HEAD + "7;");
        syntax(23, HEAD + "support x;");
        syntax(25, HEAD + "support 2 hinge 3;");
        syntax(30, HEAD + "support 2 bears;");
        syntax(31, HEAD + "support 2 bears x;");
        syntax(21, HEAD + "hinge ;");
        syntax(23, HEAD + "hinge 2 bears 3;");
        syntax(20, HEAD + "load ;");
        syntax(22, HEAD + "load 2 behind 3;");
        syntax(21, HEAD + "load 2;");
        syntax(25, HEAD + "load 2 at ;");
        syntax(27, HEAD + "load 2 at 3 3;");
        syntax(22, HEAD + "axle 2 at 3;");
        syntax(29, HEAD + "axle 2 behind ;");
        syntax(31, HEAD + "axle 2 behind 3 3;");
    }

    private static void terms4UnexpectedEnd() {
        Check.under("terms 4, an unexpected end of the text, at its length");
        String whole = HEAD + "support 2 bears 7;hinge 3;load 2 at 3;axle 2 behind 3;";
        for (int length = 0; length < whole.length(); length++) {
            char last = length == 0 ? ' ' : whole.charAt(length - 1);
            // Behind a semicolon the text may end, and a word or a number that is cut in two is another one.
            boolean isCut = last >= 'a' && whole.charAt(length) >= 'a' || length == 6;
            if (!isCut && last != ';') {
                syntax(length, whole.substring(0, length));
                syntax(length + 3, whole.substring(0, length) + "   ");
            }
        }
    }

    private static void terms4ValueErrors() {
        Check.under("terms 4, a number out of its range, at its first digit");
        tells("-3 at 6", "beam  1 most 9;");
        reads("beam 2 most 9;support 0;support 2;");
        reads("beam 30 most 9;support 0;support 30;");
        tells("-3 at 5", "beam 31 most 9;");
        tells("-3 at 13", "beam 10 most 0;");
        reads("beam 10 most 1;support 0;support 10;");
        reads("beam 10 most 999999;support 0;support 10;");
        tells("-3 at 13", "beam 10 most 1000000;");
        tells("-3 at 23", HEAD + "support 11;");
        tells("-3 at 31", HEAD + "support 0 bears 0;");
        tells("-3 at 31", HEAD + "support 0 bears 100000;");
        reads(HEAD + "support 0 bears 1;support 10 bears 99999;");
        tells("-3 at 21", HEAD + "hinge 0;");
        tells("-3 at 21", HEAD + "hinge 10;");
        tells("3 at -1", HEAD + "hinge 1;support 0;support 2;support 3;");
        tells("3 at -1", HEAD + "hinge 9;support 0;support 8;support 10;");
        tells("-3 at 20", HEAD + "load 0 at 0;");
        tells("-3 at 20", HEAD + "load 1000 at 0;");
        tells("-3 at 25", HEAD + "load 1 at 11;");
        reads(GOOD + "load 1 at 0;load 999 at 10;");
        tells("-3 at 20", HEAD + "axle 0 behind 0;");
        tells("-3 at 20", HEAD + "axle 1000 behind 0;");
        tells("-3 at 29", HEAD + "axle 1 behind 31;");
        reads(GOOD + "axle 1 behind 0;axle 999 behind 30;");
    }

    private static void terms4Twice() {
        Check.under("terms 4, a place at which there is a support or a hinge already, at its first digit");
        tells("-4 at 33", HEAD + "support 2;support 2;");
        tells("-4 at 34", HEAD + "support 2;support  002;");
        tells("-4 at 33", HEAD + "support 2;support 2 bears 0;");
        tells("-4 at 33", HEAD + "support 2;support 2");
        tells("-4 at 31", HEAD + "support 2;hinge 2;");
        tells("-4 at 31", HEAD + "hinge 2;support 2;");
        tells("-4 at 29", HEAD + "hinge 2;hinge 2;");
        reads(GOOD + "load 1 at 2;load 1 at 2;");
        tells("3 at -1", THREE + "hinge 5;load 1 at 5;");
    }

    private static void terms4TooMany() {
        Check.under("terms 4, a 6th support, a 4th hinge, a 9th load, a 7th axle, at the word");
        String five = THREE + "support 7;support 8;";
        tells("-6 at " + five.length(), five);
        tells("-5 at " + five.length(), five + "support");
        tells("-5 at " + (five.length() + 1), five + " support 7;");
        tells("-5 at " + five.length(), five + "support 99 bears x");
        String hinges = HEAD + "hinge 1;hinge 2;hinge 3;";
        tells("-6 at " + hinges.length(), hinges);
        tells("-5 at " + hinges.length(), hinges + "hinge 3;");
        tells("-5 at " + hinges.length(), hinges + "hinge 0;");
        String loads = GOOD + "load 1 at 2;".repeat(8);
        reads(loads);
        tells("-5 at " + loads.length(), loads + "load 0 at 2;");
        tells("-5 at " + loads.length(), loads + "load;");
        String axles = GOOD + "axle 1 behind 2;".repeat(6);
        reads(axles);
        tells("-5 at " + axles.length(), axles + "axle 0 behind 2;");
        tells("-5 at " + axles.length(), axles + "axle 1 at 2;");
    }

    private static void terms4WrongHinges() {
        Check.under("terms 4, not as many hinges as supports, less 2, or fewer than 2 supports, at the length");
        tells("-6 at 17", HEAD + "  ");
        tells("-6 at 25", HEAD + "support 2;");
        tells("-6 at 33", HEAD + "support 2;hinge 3;");
        reads(GOOD);
        tells("-6 at 43", GOOD + "hinge 3;");
        tells("-6 at 45", THREE);
        tells("3 at -1", THREE + "hinge 3;");
        tells("-6 at 61", THREE + "hinge 3;hinge 5;");
        tells("-6 at 62", THREE + "hinge 3;hinge 5; ");
    }

    private static void terms4Falls() {
        Check.under("terms 4, the beam does not stand, at the length");
        tells("3 at -1", THREE + "hinge 5;");
        tells("-7 at 53", THREE + "hinge 7;");
        tells("-7 at 55", THREE + "hinge 7;  ");
        tells("-7 at 53", THREE + "hinge 1;");
    }

    private static void terms4FirstErrorOfSeveral() {
        Check.under("terms 4, reading stops at the first error");
        tells("-3 at 5", "beam 1 most 0;x");
        syntax(7, "beam 10,most 0;x");
        tells("-3 at 13", "beam 10 most 0;support 99");
        tells("-3 at 20", HEAD + "load 0 at 99;");
        tells("-3 at 20", HEAD + "load 0 behind 3;");
        tells("-4 at 33", HEAD + "support 2;support 2;support 99;");
        tells("-3 at 33", HEAD + "support 2;support 99;support 2;");
        syntax(33, HEAD + "support 2;support x;support 2;");
        tells("-3 at 31", HEAD + "support 2 bears 0;support 2;");
    }

    private static void terms4SeveralErrorsAtOnePlace() {
        Check.under("terms 4, of several error codes that fit the same position the first one");
        // The number is out of the range of hinges, and there is a support.
        tells("-3 at 31", HEAD + "support 0;hinge 0;");
        tells("-3 at 32", HEAD + "support 10;hinge 10;");
        // At the end of the text: it is unexpected, there are too few hinges, and the beam does not stand.
        syntax(35, HEAD + "support 2;support 8 ");
        syntax(24, HEAD + "support 2");
        syntax(52, THREE + "hinge 7");
        tells("-6 at 61", THREE + "hinge 7;hinge 9;");
        tells("-6 at 25", HEAD + "support 2;");
    }

    // ---- promises 1 to 4

    private static void promise1SameAsTheText() {
        Check.under("promise 1, as by the text");
        String text = "beam 10 most 100;support 0;support 10;";
        Check.sameText("all numbers", Look.present(Texts.made(text)), Look.present(new BeamLines()));
        Check.sameText("the beam written", Texts.written(Texts.made(text)), Texts.written(new BeamLines()));
    }

    private static void promise1EmptyBufferAndNothingSaved() {
        Check.under("promise 1, with an empty text buffer and nothing saved");
        Check.same("the buffer", 0, new BeamLines().append(0, 0, 0, 0, 0));
        Check.same("a byte", 1, new BeamLines().append(0, 0, 32, 0, 0));
        for (int slot = 0; slot < 2; slot++) {
            int one = slot;
            Same.badState("restore(" + slot + ")", BeamLines::new, beam -> beam.restore(one));
        }
        Same.badState("undo", BeamLines::new, BeamLines::undo);
    }

    private static void promise2OrderOfTheBytes() {
        Check.under("promise 2, the most significant byte first, in the order of the arguments");
        BeamLines beam = new BeamLines();
        Check.same("twenty bytes", 20, beam.append(0x6265616d, 0x31306d6f, 0x7374393b, 0x73757070, 0x6f727432));
        Check.same("ten bytes more", 30, beam.append(0x3b737570, 0x706f7274, 0x383b0000, 0, 0));
        Check.same("read", 2, beam.load());
        Check.same("length", 10, beam.count(0));
        Check.same("MOST", 9, beam.count(5));
        Check.same("left", 2, beam.support(0, 0));
        Check.same("right", 8, beam.support(1, 0));
    }

    private static void promise2ZerosAreLeftOut() {
        Check.under("promise 2, bytes that are 0 are left out");
        Same.answers("no byte at all", 46, Texts::busy, beam -> beam.append(0, 0, 0, 0, 0));
        for (int index = 0; index < 20; index++) {
            int[] fours = new int[5];
            fours[index / 4] = 32 << 24 - index % 4 * 8;
            Check.same("the byte " + index + " alone", 1, new BeamLines().append(fours[0], fours[1], fours[2], fours[3], fours[4]));
            for (int other = 0; other < 5; other++) {
                fours[other] ^= 0x20202020;
            }
            Check.same("all but the byte " + index, 19, new BeamLines().append(fours[0], fours[1], fours[2], fours[3], fours[4]));
        }
        // The zeros stand within words and numbers.
        BeamLines beam = new BeamLines();
        beam.append(0x62006561, 0x006d0031, 0x30006d6f, 0x73740039, 0x3b000000);
        Texts.put(beam, "support 2;support 8;");
        Check.same("read", 2, beam.load());
        Check.same("length", 10, beam.count(0));
    }

    private static void promise2GreatestBytes() {
        Check.under("promise 2, bytes from 1 to 255");
        Check.same("255 each", 20, new BeamLines().append(-1, -1, -1, -1, -1));
        Check.same("1 each", 20, new BeamLines().append(0x01010101, 0x01010101, 0x01010101, 0x01010101, 0x01010101));
        Check.same("128 as the most significant one", 1, new BeamLines().append(Integer.MIN_VALUE, 0, 0, 0, 0));
        Check.same("127 and three of 255", 4, new BeamLines().append(0, 0, 0, 0, Integer.MAX_VALUE));
    }

    /** The text is good, and its buffer as long as that. */
    private static BeamLines withBuffer(int length) {
        BeamLines beam = Texts.made(Texts.BRIDGE);
        beam.save(0);
        beam.setMost(70);
        beam.writeBeam();
        Texts.put(beam, Texts.padded(GOOD, length));
        return beam;
    }

    private static void promise2LengthOf500() {
        Check.under("promise 2, a length of up to 500");
        Check.same("500 by twenty bytes", 500, withBuffer(480).append(0x20202020, 0x20202020, 0x20202020, 0x20202020, 0x20202020));
        Check.same("500 by one byte", 500, withBuffer(499).append(0, 0, 0, 32, 0));
        Check.same("499 by one byte", 499, withBuffer(498).append(0, 0, 0, 0, 32));
        Same.answers("nothing more", 500, () -> withBuffer(500), beam -> beam.append(0, 0, 0, 0, 0));
    }

    private static void promise2TooLong() {
        Check.under("promise 2, the length would exceed 500");
        Same.badState("501 by one byte", () -> withBuffer(500), beam -> beam.append(0, 0, 0, 0, 'x'));
        Same.badState("501 by the most significant byte", () -> withBuffer(500), beam -> beam.append('x' << 24, 0, 0, 0, 0));
        Same.badState("501 by two bytes", () -> withBuffer(499), beam -> beam.append('x', 0, 0, 0, 'x'));
        Same.badState("501 by twenty bytes", () -> withBuffer(481), beam -> beam.append(-1, -1, -1, -1, -1));
        Same.badState("520", () -> withBuffer(500), beam -> beam.append(-1, -1, -1, -1, -1));
        BeamLines beam = withBuffer(490);
        Check.badState("501 by eleven bytes", () -> beam.append(-1, -1, 0x00202020, 0, 0));
        Check.same("ten bytes still fit", 500, beam.append(0x20202020, 0x20202020, 0x00002020, 0, 0));
        Check.same("and nothing of the eleven was kept", 2, beam.load());
    }

    private static void promise2EachByteAtTheEdge() {
        Check.under("promise 2, each byte but 0 counts, wherever it stands");
        for (int index = 0; index < 20; index++) {
            for (int one : new int[] {1, 16, 128, 255}) {
                int[] fours = new int[5];
                fours[index / 4] = one << 24 - index % 4 * 8;
                BeamLines beam = withBuffer(499);
                Check.same("500 by the byte " + index, 500, beam.append(fours[0], fours[1], fours[2], fours[3], fours[4]));
                Check.badState("501 by the byte " + index, () -> beam.append(fours[0], fours[1], fours[2], fours[3], fours[4]));
            }
        }
    }

    private static void promise2AfterLoad() {
        Check.under("promise 2, the new length behind load");
        BeamLines beam = withBuffer(500);
        beam.load();
        Check.same("the first bytes", 3, beam.append(0x20202000, 0, 0, 0, 0));
    }

    private static void promise3NumberOfSupports() {
        Check.under("promise 3, the number of supports");
        tells("2 at -1", GOOD);
        tells("3 at -1", THREE + "hinge 3;");
        tells("4 at -1", THREE + "support 8;hinge 3;hinge 5;");
        tells("5 at -1", THREE + "support 8;support 10;hinge 3;hinge 5;hinge 7;");
    }

    private static void promise3ErrorKeepsThePresentBeam() {
        Check.under("promise 3, in case of an error the present beam stays");
        Same.readingFails("", -2, 0);
        Same.readingFails("beam 20 most 7;support 1;support 2;load 5 at 3;axle 5 behind 2;x", -2, 63);
        Same.readingFails("beam 20 most 7;support 1;support 2;load 5 at 21;", -3, 45);
        Same.readingFails("beam 20 most 7;support 1;support 1;", -4, 33);
        Same.readingFails("beam 20 most 7;hinge 1;hinge 2;hinge 3;hinge 4;", -5, 39);
        Same.readingFails("beam 20 most 7;support 1;", -6, 25);
        Same.readingFails(THREE + "hinge 7;load 5 at 3;axle 7 behind 3;", -7, 81);
    }

    private static void promise3BufferIsEmptyAfterwards() {
        Check.under("promise 3, the buffer is empty afterwards in both cases");
        BeamLines beam = new BeamLines();
        Texts.load(beam, GOOD);
        Check.same("behind a beam", 0, beam.append(0, 0, 0, 0, 0));
        Check.same("nothing is read twice", -2, beam.load());
        Texts.load(beam, GOOD + "x");
        Check.same("behind an error", 0, beam.append(0, 0, 0, 0, 0));
        Check.same("a whole text again", 2, Texts.load(beam, Texts.padded(GOOD, 500)));
        Check.same("behind the longest text", 0, beam.append(0, 0, 0, 0, 0));
        // Of the long text nothing may be left behind a short one.
        Check.same("a shorter text", -6, Texts.load(beam, HEAD));
        Check.same("its length", 15, beam.errorPosition());
    }

    private static void promise3EmptyBuffer() {
        Check.under("promise 3, an empty text");
        BeamLines beam = new BeamLines();
        Check.same("load", -2, beam.load());
        Check.same("position", 0, beam.errorPosition());
    }

    private static void promise4NoCall() {
        Check.under("promise 4, NONE if there was no call");
        BeamLines beam = new BeamLines();
        Check.same("at first", -1, beam.errorPosition());
        Texts.put(beam, "x");
        Check.same("with an error in the buffer", -1, beam.errorPosition());
    }

    private static void promise4LatestCall() {
        Check.under("promise 4, the latest call");
        BeamLines beam = new BeamLines();
        Texts.load(beam, "beam x");
        Check.same("an error", 5, beam.errorPosition());
        Texts.load(beam, "x");
        Check.same("an error at 0", 0, beam.errorPosition());
        Texts.load(beam, GOOD);
        Check.same("no error", -1, beam.errorPosition());
        Texts.load(beam, THREE + "hinge 7;");
        Check.same("a beam that falls", 53, beam.errorPosition());
        beam.undo();
        beam.setMost(3);
        beam.save(0);
        beam.restore(0);
        Check.badArgument("a call that throws", () -> beam.count(9));
        Check.same("other calls leave it", 53, beam.errorPosition());
    }

    // ---- promises 44 and 45

    private static void promise44BytesOfAllPlaces() {
        Check.under("promise 44, one byte for each place");
        BeamLines beam = Texts.made("beam 10 most 9;support 0;support 4;support 10;hinge 9;load 1 at 0;load 1 at 9;load 1 at 5;load 2 at 5;"
                + "load 1 at 8;axle 1 behind 0;");
        Check.sameText("supports and hinges before loads, no axles", "^---^v--vo^", Texts.written(beam));
        Check.sameText("loads at both ends", "v^------^-v", Texts.written(Texts.made(HEAD + "support 1;support 8;load 1 at 0;load 1 at 10;")));
        BeamLines one = Texts.made(GOOD + "load 1 at 5;load 1 at 5;");
        one.dropLoad(0);
        Check.sameText("one load is left", "--^--v--^--", Texts.written(one));
        one.dropLoad(0);
        Check.sameText("none is left", "--^-----^--", Texts.written(one));
    }

    private static void promise44InPlaceOfTheOldText() {
        Check.under("promise 44, in place of what was written before");
        BeamLines beam = Texts.made("beam 30 most 9;support 0;support 30;");
        beam.writeBeam();
        Texts.load(beam, "beam 2 most 9;support 1;support 2;");
        Check.same("the old one before", '^', beam.writtenByte(30));
        beam.writeBeam();
        Check.sameText("the new one", "written: -^^", Look.written(beam));
    }

    private static void promise44Length() {
        Check.under("promise 44, the length of the text");
        Check.same("shortest", 3, Texts.made("beam 2 most 9;support 0;support 2;").writeBeam());
        Check.same("longest", 31, Texts.made("beam 30 most 9;support 0;support 2;").writeBeam());
        Check.same("again", 11, Texts.made(GOOD).writeBeam());
    }

    private static void promise45NoneAtFirst() {
        Check.under("promise 45, there is no text at first");
        Same.noIndex("index 0", () -> Texts.made(GOOD), beam -> beam.writtenByte(0));
        Same.noIndex("index -1", () -> Texts.made(GOOD), beam -> beam.writtenByte(-1));
    }

    private static void promise45Index() {
        Check.under("promise 45, an index of a byte");
        Check.same("first", '^', Texts.busy().writtenByte(0));
        Check.same("last", '^', Texts.busy().writtenByte(12));
        for (int index : new int[] {-1, 13, 30, 31, 32, 256, Integer.MIN_VALUE, Integer.MAX_VALUE}) {
            Same.noIndex("index " + index, Texts::busy, beam -> beam.writtenByte(index));
        }
        BeamLines longest = Texts.made("beam 30 most 9;support 0;support 30;");
        longest.writeBeam();
        Check.same("last of the longest", '^', longest.writtenByte(30));
        Check.noIndex("behind the longest", () -> longest.writtenByte(31));
    }

    private static void promise45TextThatWasWritten() {
        Check.under("promise 45, the text that was written last");
        BeamLines beam = Texts.busy();
        beam.moveSupport(0, 1);
        Texts.load(beam, "");
        Check.same("the beam is another one, the text is not", '^', beam.writtenByte(0));
        Check.same("a hinge", 'o', beam.writtenByte(6));
        Check.same("a load", 'v', beam.writtenByte(9));
        Check.same("a hyphen", '-', beam.writtenByte(10));
    }
}
