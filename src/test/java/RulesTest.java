/** Promises 5 and 6: judge and broken, rule by rule with the edges that the document names. */
public final class RulesTest extends Verdict {
    public static void main(String[] args) {
        samplesAreGood();
        rule1();
        rules2And3();
        rule4();
        rule5();
        rule6();
        rule6OverlapsOfTables();
        rule7();
        rule7Alignment();
        rule7Memory();
        rule8();
        rule9();
        rule10();
        rule11();
        rule12();
        rule13();
        rule14();
        theFirstRuleCounts();
        theFirstRowCounts();
        bytesBehindTablesAreNoRows();
        rowsAtTheEndOfTheFile();
        judgedAgain();
        Expect.end();
    }

    private static void samplesAreGood() {
        good("head", Sample.head());
        good("segments", Sample.segments());
        good("full", Sample.full());
        good("full of 640", Sample.full().size(640));
    }

    private static void rule1() {
        bad("nothing", Sample.head().size(0), 1);
        bad("one byte", Sample.head().size(1), 1);
        bad("63 bytes", Sample.head().size(63), 1);
        bad("63 zeros", Sample.head().size(0).size(63), 1);
        good("65 bytes", Sample.head().size(65));
    }

    private static void rules2And3() {
        for (int i = 0; i < 16; i++) {
            for (int bit = 0; bit < 8; bit++) {
                Sample s = Sample.head();
                s.put(i, 1, s.bytes[i] ^ 1 << bit);
                bad("mark " + i + " bit " + bit, s, i < 4 ? 2 : 3);
            }
        }
        bad("zeros", Sample.head().size(0).size(64), 2);
    }

    private static void rule4() {
        int[] kinds = {0, 1, 2, 3, 4, 0x101, 0xFFFF};
        int[] rules = {4, 0, 14, 0, 4, 4, 4};
        for (int i = 0; i < kinds.length; i++) {
            bad("kind " + kinds[i], Sample.head().head(Sample.KIND, kinds[i]), rules[i]);
        }
        for (int machine : new int[] {0, 242, 244, 0x1F3, 0xF300}) {
            bad("machine " + machine, Sample.head().head(Sample.MACHINE, machine), 4);
        }
        for (long version : new long[] {0, 2, 0x101, 0x1000001L, 0xFFFFFFFFL}) {
            bad("version " + version, Sample.head().head(Sample.VERSION, version), 4);
        }
    }

    private static void rule5() {
        for (int length : new int[] {0, 63, 65, 0x140}) {
            bad("head's length " + length, Sample.head().head(Sample.HEAD_LENGTH, length), 5);
        }
        for (int length : new int[] {0, 55, 57, 64, 0x138}) {
            bad("segment's row " + length, Sample.segments().head(Sample.SEGMENT_LENGTH, length), 5);
            good("no segments, row " + length, Sample.head().head(Sample.SEGMENT_LENGTH, length));
        }
        for (int length : new int[] {0, 63, 65, 56, 0x140}) {
            bad("section's row " + length, Sample.full().head(Sample.SECTION_LENGTH, length), 5);
            good("no sections, row " + length, Sample.segments().head(Sample.SECTION_LENGTH, length));
        }
        bad("many segments, no row length", Sample.head().head(Sample.SEGMENTS, 0x100), 5);
        bad("many sections, no row length", Sample.head().head(Sample.SECTIONS, 0x100), 5);
    }

    private static void rule6() {
        for (long place : new long[] {1, 4, 65, 68, -1, -4}) {
            bad("segments at " + place, Sample.segments().head(Sample.SEGMENT_TABLE, place), 6);
            bad("sections at " + place, Sample.full().head(Sample.SECTION_TABLE, place), 6);
        }
        for (long place : new long[] {-8, TOP, -56, -64, 1L << 32, 1L << 31, 640}) {
            bad("segments far away at " + place, Sample.segments().head(Sample.SEGMENT_TABLE, place), 6);
            bad("sections far away at " + place, Sample.full().head(Sample.SECTION_TABLE, place), 6);
        }
        for (long place : new long[] {0, 1, -1, TOP}) {
            good("no segments at " + place, Sample.head().head(Sample.SEGMENT_TABLE, place));
            good("no sections at " + place, Sample.head().head(Sample.SECTION_TABLE, place));
        }
        good("segments end with the file", Sample.segments().size(288).head(Sample.SEGMENTS, 2)
            .segment(0, Sample.S_IN_FILE, 0).head(Sample.SEGMENT_TABLE, 64));
        Sample last = Sample.head().size(120).head(Sample.SEGMENT_TABLE, 64).head(Sample.SEGMENTS, 1)
            .head(Sample.SEGMENT_LENGTH, 56);
        good("a segment of zeros at the end", last);
        bad("a byte less", last.size(119), 6);
        bad("more rows than bytes", Sample.segments().head(Sample.SEGMENTS, 5), 6);
        bad("65535 segments", Sample.segments().head(Sample.SEGMENTS, 65535), 6);
        bad("65535 sections", Sample.full().head(Sample.SECTIONS, 65535), 6);
        bad("sections out of the file", Sample.full().size(599), 6);
    }

    private static void rule6OverlapsOfTables() {
        bad("segments on the head", Sample.segments().head(Sample.SEGMENT_TABLE, 56), 6);
        bad("segments at 0", Sample.segments().head(Sample.SEGMENT_TABLE, 0), 6);
        bad("sections on the head", Sample.full().head(Sample.SECTION_TABLE, 56), 6);
        Sample twoTables = Sample.head().size(640).head(Sample.SEGMENT_LENGTH, 56).head(Sample.SECTION_LENGTH, 64)
            .head(Sample.SEGMENT_TABLE, 160).head(Sample.SEGMENTS, 2).head(Sample.SECTIONS, 1);
        verdict("sections before", twoTables.head(Sample.SECTION_TABLE, 96), 11, 0);
        bad("sections on the segments' begin", twoTables.head(Sample.SECTION_TABLE, 104), 6);
        bad("sections in the segments", twoTables.head(Sample.SECTION_TABLE, 192), 6);
        bad("sections at the same place", twoTables.head(Sample.SECTION_TABLE, 160), 6);
        bad("sections on the segments' end", twoTables.head(Sample.SECTION_TABLE, 264), 6);
        verdict("sections behind", twoTables.head(Sample.SECTION_TABLE, 272), 11, 0);
    }

    private static void rule7() {
        for (int k = 0; k < 4; k++) {
            verdict("length in the file of segment " + k, seg(k, Sample.S_IN_FILE, -1), 7, k);
            verdict("place of segment " + k, seg(k, Sample.S_PLACE, -1), 7, k);
            verdict("alignment of segment " + k, seg(k, Sample.S_ALIGNMENT, 3), 7, k);
        }
        good("room up to the end", seg(3, Sample.S_IN_FILE, 16));
        verdict("room beyond the end", seg(3, Sample.S_IN_FILE, 17).segment(3, Sample.S_IN_MEMORY, 17)
            .segment(3, Sample.S_ADDRESS, -17), 7, 3);
        good("no room at the end", seg(3, Sample.S_IN_FILE, 0).segment(3, Sample.S_PLACE, 320));
        verdict("no room behind the end", seg(3, Sample.S_IN_FILE, 0).segment(3, Sample.S_PLACE, 321), 7, 3);
        verdict("place and length wrap to 0", seg(3, Sample.S_IN_FILE, 8).segment(3, Sample.S_PLACE, -8), 7, 3);
        verdict("place and length wrap to 320", seg(1, Sample.S_PLACE, 328).segment(1, Sample.S_IN_FILE, -8)
            .segment(1, Sample.S_IN_MEMORY, -8).segment(1, Sample.S_ADDRESS, 0), 7, 1);
        good("as long in memory", seg(3, Sample.S_IN_FILE, 8).segment(3, Sample.S_IN_MEMORY, 8));
        verdict("shorter in memory", seg(3, Sample.S_IN_FILE, 8).segment(3, Sample.S_IN_MEMORY, 7), 7, 3);
        good("memory of 2^63", seg(1, Sample.S_IN_MEMORY, TOP));
        good("other address is free", seg(0, Sample.S_OTHER_ADDRESS, -1));
        good("flags are free", seg(0, Sample.S_FLAGS, 0xFFFFFFFFL));
        good("kind is free", seg(1, Sample.S_KIND, 0xFFFFFFFFL));
    }

    private static void rule7Alignment() {
        for (int bit = 0; bit < 64; bit++) {
            Sample s = seg(1, Sample.S_ADDRESS, 64).segment(1, Sample.S_ALIGNMENT, 1L << bit);
            good("alignment 2^" + bit, s);
            if (bit > 1) {
                verdict("alignment 2^" + bit + " + 1", s.segment(1, Sample.S_ALIGNMENT, (1L << bit) + 1), 7, 1);
            }
        }
        verdict("alignment -1", seg(1, Sample.S_ALIGNMENT, -1), 7, 1);
        verdict("alignment 2^63 + 2^62", seg(1, Sample.S_ALIGNMENT, 3L << 62), 7, 1);
        for (int alignment = 0; alignment <= 1; alignment++) {
            good("any rest by " + alignment, seg(1, Sample.S_ADDRESS, 65).segment(1, Sample.S_ALIGNMENT, alignment));
        }
        verdict("rest by 2", seg(1, Sample.S_ADDRESS, 65).segment(1, Sample.S_ALIGNMENT, 2), 7, 1);
        verdict("rest by 8", seg(1, Sample.S_ADDRESS, 60), 7, 1);
        good("same rest by 8, not 0", seg(1, Sample.S_ADDRESS, -251).segment(1, Sample.S_PLACE, 5));
        good("same rest by 2^63", seg(1, Sample.S_ADDRESS, TOP + 64).segment(1, Sample.S_ALIGNMENT, TOP));
        verdict("rest by 2^63", seg(1, Sample.S_ADDRESS, TOP + 65).segment(1, Sample.S_ALIGNMENT, TOP), 7, 1);
        good("address below place", seg(1, Sample.S_ADDRESS, 0));
        verdict("address below place, other rest", seg(1, Sample.S_ADDRESS, 1), 7, 1);
    }

    private static void rule7Memory() {
        good("up to 2^64", seg(3, Sample.S_ADDRESS, -16));
        verdict("beyond 2^64", seg(3, Sample.S_ADDRESS, -15), 7, 3);
        verdict("from the last byte", seg(3, Sample.S_ADDRESS, -1), 7, 3);
        Sample none = seg(3, Sample.S_ADDRESS, -1).segment(3, Sample.S_IN_FILE, 0);
        good("no memory at the last byte", none.segment(3, Sample.S_IN_MEMORY, 0));
        good("one byte at the last byte", none.segment(3, Sample.S_IN_MEMORY, 1));
        verdict("two bytes at the last byte", none.segment(3, Sample.S_IN_MEMORY, 2), 7, 3);
        good("all memory but a byte", seg(1, Sample.S_ADDRESS, 0).segment(1, Sample.S_IN_MEMORY, -1));
        good("from 1 to 2^64", seg(1, Sample.S_ADDRESS, 1).segment(1, Sample.S_IN_MEMORY, -1)
            .segment(1, Sample.S_ALIGNMENT, 0));
        verdict("from 2 beyond 2^64", seg(1, Sample.S_ADDRESS, 2).segment(1, Sample.S_IN_MEMORY, -1)
            .segment(1, Sample.S_ALIGNMENT, 0), 7, 1);
        verdict("not a loaded one either", seg(1, Sample.S_ADDRESS, -8), 7, 1);
    }

    private static void rule8() {
        Sample s = Sample.segments().segment(2, Sample.S_ALIGNMENT, 0).segment(3, Sample.S_ALIGNMENT, 0);
        good("begins at the end of the one before", s.segment(2, Sample.S_ADDRESS, 0x1200));
        verdict("begins below the end", s.segment(2, Sample.S_ADDRESS, 0x11FF), 8, 2);
        verdict("begins below the begin", s.segment(2, Sample.S_ADDRESS, 0x800), 8, 2);
        verdict("begins at the same address", s.segment(2, Sample.S_ADDRESS, 0x1000), 8, 2);
        s.segment(2, Sample.S_ADDRESS, 0x2000);
        verdict("the last below", s.segment(3, Sample.S_ADDRESS, 0x20FF), 8, 3);
        good("the last at the end", s.segment(3, Sample.S_ADDRESS, 0x2100));
        good("only loaded ones rise", s.segment(2, Sample.S_KIND, 2).segment(2, Sample.S_ADDRESS, 0));
        verdict("the loaded one before, past another", s.segment(3, Sample.S_ADDRESS, 0x11FF), 8, 3);
        good("the kind has 4 bytes", s.segment(3, Sample.S_KIND, 0x1000001L));
        Sample high = Sample.segments().segment(2, Sample.S_ALIGNMENT, 0).segment(2, Sample.S_ADDRESS, -0x100);
        verdict("none behind an end of 2^64", high, 8, 3);
        verdict("no empty one behind it either", high.segment(3, Sample.S_IN_FILE, 0)
            .segment(3, Sample.S_IN_MEMORY, 0).segment(3, Sample.S_ADDRESS, -1), 8, 3);
        verdict("nor one at 0", high.segment(3, Sample.S_ADDRESS, 0), 8, 3);
        Sample empty = seg(0, Sample.S_IN_FILE, 0).segment(0, Sample.S_IN_MEMORY, 0);
        good("an empty one and one at the same address", empty.segment(2, Sample.S_ADDRESS, 0x1120)
            .segment(0, Sample.S_ALIGNMENT, 0).segment(0, Sample.S_ADDRESS, 0x1120));
        good("2^63 and above is above", seg(2, Sample.S_ADDRESS, TOP + 0x120));
        verdict("2^63 and above before", seg(0, Sample.S_ADDRESS, TOP), 8, 2);
    }

    private static void rule9() {
        for (int i = 0; i < 64; i++) {
            verdict("byte " + i + " of section 0", Sample.full().put(216 + i, 1, 128), 9, 0);
        }
        verdict("kind 12", sec(4, Sample.T_KIND, 12), 9, 4);
        verdict("kind above 2^31", sec(4, Sample.T_KIND, 0x80000001L), 9, 4);
        for (int kind : new int[] {0, 1, 4, 5, 6, 7, 8, 9, 10, 11}) {
            good("kind " + kind, sec(4, Sample.T_KIND, kind));
        }
        for (int bit = 2; bit < 64; bit++) {
            good("alignment 2^" + bit, sec(4, Sample.T_ALIGNMENT, 1L << bit).section(4, Sample.T_ADDRESS, 0));
            verdict("alignment 2^" + bit + " - 1", sec(4, Sample.T_ALIGNMENT, (1L << bit) - 1), 9, 4);
        }
        good("address by 0", sec(4, Sample.T_ALIGNMENT, 0).section(4, Sample.T_ADDRESS, 0x2001));
        good("address by 1", sec(4, Sample.T_ALIGNMENT, 1).section(4, Sample.T_ADDRESS, 0x2001));
        verdict("address by 2", sec(4, Sample.T_ALIGNMENT, 2).section(4, Sample.T_ADDRESS, 0x2001), 9, 4);
        verdict("address below the alignment", sec(4, Sample.T_ADDRESS, 0x800), 9, 4);
        good("address by 2^63", sec(4, Sample.T_ALIGNMENT, TOP).section(4, Sample.T_ADDRESS, TOP));
        verdict("address 1 by 2^63", sec(4, Sample.T_ALIGNMENT, TOP).section(4, Sample.T_ADDRESS, 1), 9, 4);
        good("a place is not aligned", Sample.full().size(617).section(4, Sample.T_PLACE, 601));
        verdict("room beyond the end", sec(4, Sample.T_LENGTH, 17), 9, 4);
        verdict("room far beyond", sec(4, Sample.T_LENGTH, -600), 9, 4);
        verdict("place far beyond", sec(4, Sample.T_PLACE, -16), 9, 4);
        good("empty one at the end", sec(5, Sample.T_LENGTH, -1));
        verdict("empty one behind the end", sec(5, Sample.T_PLACE, 617), 9, 5);
        verdict("none behind the end", sec(5, Sample.T_PLACE, 617).section(5, Sample.T_KIND, 0), 9, 5);
        good("none with a length", sec(5, Sample.T_KIND, 0));
        verdict("another kind with that length", sec(5, Sample.T_KIND, 9), 9, 5);
    }

    private static void rule10() {
        verdict("texts on names, told of the later", sec(2, Sample.T_PLACE, 135), 10, 2);
        verdict("names on texts, told of the later", sec(1, Sample.T_PLACE, 128), 10, 2);
        verdict("bytes on all", sec(4, Sample.T_PLACE, 0).section(4, Sample.T_LENGTH, 616), 10, 4);
        verdict("bytes on the head's begin", sec(4, Sample.T_PLACE, 0).section(4, Sample.T_LENGTH, 1), 10, 4);
        verdict("bytes on the head's end", sec(4, Sample.T_PLACE, 63).section(4, Sample.T_LENGTH, 1), 10, 4);
        verdict("bytes on the segments", sec(4, Sample.T_PLACE, 64).section(4, Sample.T_LENGTH, 1), 10, 4);
        verdict("bytes on the segments' end", sec(4, Sample.T_PLACE, 119).section(4, Sample.T_LENGTH, 1), 10, 4);
        verdict("bytes on the sections", sec(4, Sample.T_PLACE, 216).section(4, Sample.T_LENGTH, 1), 10, 4);
        verdict("bytes on the sections' end", sec(4, Sample.T_PLACE, 599), 10, 4);
        verdict("bytes in names", sec(4, Sample.T_PLACE, 121).section(4, Sample.T_LENGTH, 1), 10, 4);
        verdict("bytes at the place of names", sec(4, Sample.T_PLACE, 120), 10, 4);
        verdict("bytes round a single one", sec(2, Sample.T_LENGTH, 1).section(4, Sample.T_PLACE, 136)
            .section(4, Sample.T_LENGTH, 8), 10, 4);
        good("no bytes in names", sec(4, Sample.T_PLACE, 121).section(4, Sample.T_LENGTH, 0));
        good("no bytes on the head", sec(4, Sample.T_PLACE, 0).section(4, Sample.T_LENGTH, 0));
        good("an empty one in names", sec(5, Sample.T_PLACE, 121));
        good("an empty one on the head", sec(5, Sample.T_PLACE, 0));
        good("none on a table", sec(4, Sample.T_PLACE, 220).section(4, Sample.T_KIND, 0));
        verdict("a room round another, told of the later",
            sec(1, Sample.T_PLACE, 130).section(1, Sample.T_LENGTH, 80), 10, 2);
        verdict("the head counts in order", sec(2, Sample.T_PLACE, 0).section(1, Sample.T_LENGTH, 18), 10, 2);
        verdict("sections before the head, by rows",
            sec(3, Sample.T_PLACE, 138).section(4, Sample.T_PLACE, 0), 10, 3);
        verdict("the head before sections, by rows",
            sec(2, Sample.T_PLACE, 0).section(4, Sample.T_PLACE, 120), 10, 2);
        good("without segments their place is free",
            Sample.full().head(Sample.KIND, 1).head(Sample.SEGMENTS, 0).head(Sample.SEGMENT_TABLE, 600));
    }

    private static void rule11() {
        for (int names : new int[] {0, 3, 4, 5, 6, 0x101, 65535}) {
            verdict("names in " + names, Sample.full().head(Sample.NAMES, names), 11, 0);
        }
        verdict("names in texts too short", Sample.full().head(Sample.NAMES, 2), 11, 4);
        good("no sections, no names", Sample.head().head(Sample.NAMES, 65535));
        verdict("names of no length", sec(1, Sample.T_LENGTH, 0), 11, 1);
        verdict("texts of no length", sec(2, Sample.T_LENGTH, 0), 11, 2);
        verdict("names' first", Sample.full().put(120, 1, 1), 11, 1);
        verdict("names' last", Sample.full().put(135, 1, 1), 11, 1);
        verdict("texts' first", Sample.full().put(136, 1, 128), 11, 2);
        verdict("texts' last", Sample.full().put(143, 1, 128), 11, 2);
        verdict("first that is not last", sec(1, Sample.T_LENGTH, 7), 11, 1);
        good("bytes need no 0", Sample.full().put(600, 8, -1).put(608, 8, -1));
        good("name at the last 0", sec(3, Sample.T_NAME, 15));
        verdict("name beyond", sec(3, Sample.T_NAME, 16), 11, 3);
        verdict("name above 2^31", sec(3, Sample.T_NAME, 0x80000000L), 11, 3);
        verdict("name of one of names", sec(1, Sample.T_NAME, 16), 11, 1);
        verdict("names there before texts", sec(2, Sample.T_LENGTH, 0).head(Sample.NAMES, 4), 11, 0);
        verdict("all texts before all names", sec(1, Sample.T_NAME, 16).put(143, 1, 1), 11, 2);
        verdict("names of a single 0", sec(1, Sample.T_LENGTH, 1), 11, 1);
        Sample short1 = sec(1, Sample.T_LENGTH, 1);
        for (int k = 1; k <= 5; k++) {
            short1.section(k, Sample.T_NAME, 0);
        }
        good("names of a single 0 without names", short1);
    }

    private static void rule12() {
        for (long length : new long[] {0, 23, 25, 48, 0x118, (1L << 32) + 24}) {
            verdict("entries of " + length, sec(3, Sample.T_ENTRY, length), 12, 3);
        }
        for (int length : new int[] {1, 23, 25, 71, 50}) {
            verdict("length " + length, sec(3, Sample.T_LENGTH, length).section(3, Sample.T_INFO, 0), 12, 3);
        }
        for (long link : new long[] {0, 3, 4, 5, 6, 0x102, 0x80000001L, 0xFFFFFFFFL}) {
            verdict("link " + link, sec(3, Sample.T_LINK, link), 12, 3);
        }
        good("link to names", sec(3, Sample.T_LINK, 1));
        for (long info : new long[] {4, 0x103, 0x80000000L, 0xFFFFFFFFL}) {
            verdict("info " + info, sec(3, Sample.T_INFO, info), 12, 3);
        }
        good("info of all", sec(3, Sample.T_INFO, 3).symbolPart(2, Sample.Y_INFO, 15));
        good("no symbols", sec(3, Sample.T_LENGTH, 0).section(3, Sample.T_INFO, 0));
        verdict("no symbols, info 1", sec(3, Sample.T_LENGTH, 0).section(3, Sample.T_INFO, 1), 12, 3);
        good("others' entries are free", sec(4, Sample.T_ENTRY, 5));
        good("others' links are free", sec(4, Sample.T_LINK, 0xFFFFFFFFL));
    }

    private static void rule13() {
        for (int i = 0; i < 24; i++) {
            verdict("byte " + i + " of symbol 0", Sample.full().put(144 + i, 1, 1), 13, 3);
        }
        good("name at the last 0", sym(1, Sample.Y_NAME, 7));
        verdict("name beyond", sym(1, Sample.Y_NAME, 8), 13, 3);
        verdict("name above 2^31", sym(2, Sample.Y_NAME, 0x80000000L), 13, 3);
        good("name by the link", sym(1, Sample.Y_NAME, 15).section(3, Sample.T_LINK, 1));
        for (int section : new int[] {0, 5, 65521, 65522}) {
            good("section " + section, sym(2, Sample.Y_SECTION, section));
        }
        for (int section : new int[] {6, 256, 65520, 65523, 65535, 32768}) {
            verdict("section " + section, sym(2, Sample.Y_SECTION, section), 13, 3);
        }
        verdict("local behind info", sym(2, Sample.Y_INFO, 15), 13, 3);
        good("binding 1", sym(2, Sample.Y_INFO, 16));
        verdict("not local below info", sym(1, Sample.Y_INFO, 16), 13, 3);
        verdict("not local by the highest bit", sym(1, Sample.Y_INFO, 128), 13, 3);
        verdict("info too high", sec(3, Sample.T_INFO, 3), 13, 3);
        verdict("info too low", sec(3, Sample.T_INFO, 1), 13, 3);
        verdict("symbol 0 is local", sec(3, Sample.T_INFO, 0).section(3, Sample.T_LENGTH, 24), 13, 3);
        Sample alone = sec(3, Sample.T_INFO, 1).section(3, Sample.T_LENGTH, 24);
        good("symbol 0 alone", alone);
        verdict("symbol 0 alone, not zeros", alone.symbolPart(0, Sample.Y_SIZE, 1), 13, 3);
        good("other, value and size are free", sym(1, Sample.Y_OTHER, 255).symbolPart(1, Sample.Y_VALUE, -1));
    }

    private static void rule14() {
        Sample s = Sample.full();
        good("entry at the begin", s.head(Sample.ENTRY, 0x1000));
        bad("entry before", s.head(Sample.ENTRY, 0xFFF), 14);
        good("entry at the last byte", s.head(Sample.ENTRY, 0x12FF));
        bad("entry at the end", s.head(Sample.ENTRY, 0x1300), 14);
        bad("entry at -1", s.head(Sample.ENTRY, -1), 14);
        s.head(Sample.ENTRY, 0x1000);
        bad("not to be run", s.segment(0, Sample.S_FLAGS, 0xFFFFFFFEL), 14);
        good("to be run", s.segment(0, Sample.S_FLAGS, 1));
        bad("not loaded", s.segment(0, Sample.S_KIND, 2), 14);
        good("kind 1 needs no entry", s.head(Sample.KIND, 1));
        good("kind 3 needs no entry", s.head(Sample.KIND, 3));
        Sample high = seg(3, Sample.S_FLAGS, 1).head(Sample.KIND, 2);
        bad("entry between", high.head(Sample.ENTRY, -17), 14);
        good("entry in the last", high.head(Sample.ENTRY, -16));
        good("entry at the top", high.head(Sample.ENTRY, -1));
        bad("entry past the top", high.head(Sample.ENTRY, 0), 14);
        good("entry in the first", high.head(Sample.ENTRY, 0x1000));
        bad("entry in one not to be run", high.head(Sample.ENTRY, 0x2120), 14);
        bad("no segments", Sample.head().head(Sample.KIND, 2), 14);
    }

    private static void theFirstRuleCounts() {
        Sample s = Sample.full().head(Sample.ENTRY, 0);
        bad("14", s, 14);
        verdict("13", s.symbolPart(2, Sample.Y_SECTION, 7), 13, 3);
        verdict("12", s.section(3, Sample.T_LINK, 4), 12, 3);
        verdict("11, names", s.section(4, Sample.T_NAME, 16), 11, 4);
        verdict("11, texts", s.put(143, 1, 1), 11, 2);
        verdict("11, names' section", s.head(Sample.NAMES, 5), 11, 0);
        verdict("10", s.section(4, Sample.T_PLACE, 599), 10, 4);
        verdict("9", s.section(5, Sample.T_KIND, 99), 9, 5);
        verdict("7", s.segment(0, Sample.S_ALIGNMENT, 7), 7, 0);
        bad("6", s.head(Sample.SEGMENT_TABLE, 60), 6);
        bad("5", s.head(Sample.HEAD_LENGTH, 60), 5);
        bad("4", s.head(Sample.MACHINE, 60), 4);
        bad("3", s.put(15, 1, 60), 3);
        bad("2", s.put(3, 1, 60), 2);
        bad("1", s.size(60), 1);
        Sample rise = seg(2, Sample.S_ADDRESS, 0x120);
        verdict("8", rise, 8, 2);
        verdict("7 of a later row before 8", rise.segment(3, Sample.S_PLACE, -1), 7, 3);
    }

    private static void theFirstRowCounts() {
        verdict("7: the first row", seg(1, Sample.S_ALIGNMENT, 3).segment(2, Sample.S_IN_FILE, -1), 7, 1);
        verdict("7: by rows, not by parts", seg(1, Sample.S_ADDRESS, 65).segment(2, Sample.S_ALIGNMENT, 3), 7, 1);
        verdict("9: by rows, not by parts", sec(2, Sample.T_ALIGNMENT, 2).section(2, Sample.T_ADDRESS, 1)
            .section(4, Sample.T_KIND, 12), 9, 2);
        verdict("9: section 0 first", sec(0, Sample.T_INFO, 1).section(1, Sample.T_KIND, 12), 9, 0);
        verdict("11: first name", sec(2, Sample.T_NAME, 16).section(4, Sample.T_NAME, 16), 11, 2);
        Sample two = Sample.full().section(4, Sample.T_KIND, 2);
        verdict("12: the later section of symbols", two, 12, 4);
        two.section(4, Sample.T_LENGTH, 0).section(4, Sample.T_ENTRY, 24).section(4, Sample.T_LINK, 1);
        good("two sections of symbols", two.section(4, Sample.T_INFO, 0));
        verdict("12: all sections before any symbol", two.section(4, Sample.T_INFO, 1)
            .symbolPart(1, Sample.Y_NAME, 8), 12, 4);
    }

    private static void bytesBehindTablesAreNoRows() {
        Sample three = seg(3, Sample.S_FLAGS, 1).head(Sample.SEGMENTS, 3);
        good("no row that sinks", Sample.segments().head(Sample.SEGMENTS, 3).segment(3, Sample.S_ADDRESS, 0));
        good("no row that is bad", seg(3, Sample.S_ALIGNMENT, 3).head(Sample.SEGMENTS, 3));
        bad("no row to be run", three.head(Sample.KIND, 2).head(Sample.ENTRY, -16), 14);
        Sample five = Sample.full().head(Sample.SECTIONS, 5);
        good("five sections", five);
        verdict("no section 5 for a symbol", five.symbolPart(1, Sample.Y_SECTION, 5), 13, 3);
        five.section(5, Sample.T_KIND, 3).section(5, Sample.T_PLACE, 120).section(5, Sample.T_LENGTH, 16);
        verdict("no texts 5 to link", five.section(3, Sample.T_LINK, 5), 12, 3);
        verdict("no texts 5 for names", five.head(Sample.NAMES, 5), 11, 0);
        good("no texts to be closed", sec(5, Sample.T_KIND, 3).head(Sample.SECTIONS, 5));
        good("no section of symbols", sec(5, Sample.T_KIND, 2).head(Sample.SECTIONS, 5));
        Sample symbols = sec(5, Sample.T_KIND, 2).section(5, Sample.T_PLACE, 120).section(5, Sample.T_LENGTH, 24);
        good("no symbols", symbols.section(5, Sample.T_LINK, 1).section(5, Sample.T_ENTRY, 24)
            .section(5, Sample.T_INFO, 0).head(Sample.SECTIONS, 5));
    }

    private static void rowsAtTheEndOfTheFile() {
        Sample one = Sample.head().size(120).head(Sample.SEGMENT_TABLE, 64).head(Sample.SEGMENTS, 1)
            .head(Sample.SEGMENT_LENGTH, 56);
        good("alignment 2^63", one.segment(0, Sample.S_ALIGNMENT, TOP));
        verdict("rest by 2^63", one.segment(0, Sample.S_PLACE, 1), 7, 0);
        verdict("alignment 3", one.segment(0, Sample.S_PLACE, 0).segment(0, Sample.S_ALIGNMENT, 3), 7, 0);
        Sample last = Sample.head().size(128).head(Sample.SECTION_TABLE, 64).head(Sample.SECTIONS, 1)
            .head(Sample.SECTION_LENGTH, 64);
        verdict("the last byte of section 0", last.put(127, 1, 1), 9, 0);
        Sample texts = sec(4, Sample.T_KIND, 3);
        good("texts at the end", texts);
        verdict("texts not closed by the last byte", texts.put(615, 1, 1), 11, 4);
    }

    private static void judgedAgain() {
        FileJudge x = seg(1, Sample.S_ALIGNMENT, 3).fed();
        for (int i = 0; i < 3; i++) {
            Expect.answer("judged again", 7, x::judge);
            Expect.answer("told again", 1, x::broken);
            Expect.answer("told twice", 1, x::broken);
        }
        x.spoil(64 + 56 + Sample.S_ALIGNMENT, 3 ^ 8);
        Expect.noState("changed", x::broken);
        Expect.answer("mended", 0, x::judge);
        Expect.answer("nothing broke it", -1, x::broken);
        x.spoil(0, 1);
        Expect.answer("spoilt", 2, x::judge);
        Expect.answer("no row broke it", -1, x::broken);
    }
}
