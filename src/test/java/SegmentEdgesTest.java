/** Rules 7, 8 and 14: each sentence at the last value that it allows and at the first that it does not. */
public final class SegmentEdgesTest extends Verdict {
    private static final int SIZE = 640;

    public static void main(String[] args) {
        rule7Alignment();
        rule7Room();
        rule7RoomWithoutWrapping();
        rule7EachBit();
        rule7LengthInMemory();
        rule7Top();
        rule7Rest();
        rule8();
        rule8WithoutWrapping();
        rule8LoadedOnesAlone();
        rule14();
        rule14AtTheTop();
        rule14RunAndLoaded();
        rule14KindsAlone();
        Expect.end();
    }

    /** Two segments of zeros, number 1 with the given parts; 640 bytes. */
    private static Sample one(long place, long inFile, long address, long inMemory, long alignment) {
        return Sample.tables(SIZE, 64, 2, 0, 0, 0).segment(1, Sample.S_PLACE, place)
            .segment(1, Sample.S_IN_FILE, inFile).segment(1, Sample.S_ADDRESS, address)
            .segment(1, Sample.S_IN_MEMORY, inMemory).segment(1, Sample.S_ALIGNMENT, alignment);
    }

    private static void rule7Alignment() {
        good("7: alignment 0", one(0, 0, 0, 0, 0));
        edge("7: alignment 1 and 3", one(0, 0, 0, 0, 1), one(0, 0, 0, 0, 3), 7, 1);
        for (int bit = 2; bit < 64; bit++) {
            long power = 1L << bit;
            edge("7: alignment 2^" + bit + " and less", one(0, 0, 0, 0, power), one(0, 0, 0, 0, power - 1), 7, 1);
            edge("7: alignment 2^" + bit + " and more", one(0, 0, 0, 0, power), one(0, 0, 0, 0, power + 1), 7, 1);
        }
        edge("7: alignment of all bits", one(0, 0, 0, 0, TOP), one(0, 0, 0, 0, -1), 7, 1);
    }

    private static void rule7Room() {
        edge("7: room to the end", one(0, 640, 0, 641, 0), one(0, 641, 0, 641, 0), 7, 1);
        edge("7: room of the last byte", one(639, 1, 0, 2, 0), one(639, 2, 0, 2, 0), 7, 1);
        edge("7: room of a byte", one(639, 1, 0, 1, 0), one(640, 1, 0, 1, 0), 7, 1);
        edge("7: room of no byte", one(640, 0, 0, 0, 0), one(641, 0, 0, 0, 0), 7, 1);
        edge("7: room to the end of a shorter file", one(176, 24, 0, 24, 0).size(200),
            one(176, 24, 0, 24, 0).size(199), 7, 1);
    }

    private static void rule7RoomWithoutWrapping() {
        long[][] rooms = {{-1, 1}, {-8, 8}, {-1, 641}, {1, -1}, {640, -640}, {640, -1}, {TOP, TOP}, {TOP, 0},
            {0, TOP}, {0, -1}, {-1, 0}, {-1, -1}, {1L << 32, 0}, {0, 1L << 32}, {1L << 31, 0}, {0, 1L << 31}};
        for (long[] room : rooms) {
            long address = room[1] == 0 ? 0 : 1;
            long inMemory = room[1] == -1 || room[1] == 0 ? room[1] : room[1] + 1;
            verdict("7: place and length as they are, " + room[0] + " " + room[1],
                one(room[0], room[1], address, inMemory, 0), 7, 1);
        }
    }

    private static void rule7EachBit() {
        for (int bit = 10; bit < 64; bit++) {
            long more = 1L << bit;
            verdict("7: place with bit " + bit, one(8 + more, 8, 0, 8, 0), 7, 1);
            verdict("7: length in the file with bit " + bit, one(8, 8 + more, 0, 8 + more, 0), 7, 1);
            good("7: length in memory with bit " + bit, one(8, 8, 0, 7 + more, 0));
            good("7: address with bit " + bit, one(8, 8, more, 8, 0));
        }
    }

    private static void rule7LengthInMemory() {
        edge("7: in memory not below in the file", one(0, 8, 0, 8, 0), one(0, 8, 0, 7, 0), 7, 1);
        edge("7: in memory 1 and 0", one(0, 1, 0, 1, 0), one(0, 1, 0, 0, 0), 7, 1);
        edge("7: in memory 640 and 639", one(0, 640, 0, 640, 0), one(0, 640, 0, 639, 0), 7, 1);
        good("7: in memory without sign, 2^63", one(0, 640, 0, TOP, 0));
        good("7: in memory without sign, 2^64 - 1", one(0, 640, 0, -1, 0));
    }

    private static void rule7Top() {
        edge("7: a byte up to 2^64", one(0, 0, -1, 1, 0), one(0, 0, -1, 2, 0), 7, 1);
        edge("7: all bytes from 1", one(0, 0, 1, -1, 0), one(0, 0, 2, -1, 0), 7, 1);
        edge("7: 2^63 twice", one(0, 0, TOP, TOP, 0), one(0, 0, TOP, TOP + 1, 0), 7, 1);
        edge("7: 2^63 and a higher address", one(0, 0, TOP, TOP, 0), one(0, 0, TOP + 1, TOP, 0), 7, 1);
        edge("7: 16 bytes up to 2^64", one(0, 0, -16, 16, 0), one(0, 0, -15, 16, 0), 7, 1);
        good("7: the highest address alone", one(0, 0, -1, 0, 0));
        good("7: the highest length alone", one(0, 0, 0, -1, 0));
        good("7: that is the length in memory, with less in the file", one(0, 1, -2, 2, 0));
        verdict("7: both the highest", one(0, 0, -1, -1, 0), 7, 1);
        verdict("7: in memory too long, not in the file", one(0, 1, -2, 3, 0), 7, 1);
    }

    private static void rule7Rest() {
        good("7: any rest by 0", one(3, 0, 4, 0, 0));
        edge("7: an alignment above 1", one(3, 0, 4, 0, 1), one(3, 0, 4, 0, 2), 7, 1);
        for (int bit = 1; bit < 64; bit++) {
            long power = 1L << bit;
            edge("7: rest by 2^" + bit, one(5, 0, power + 5, 0, power), one(5, 0, power + 4, 0, power), 7, 1);
            edge("7: rest of all lower bits by 2^" + bit, one(0, 0, -power, 0, power), one(0, 0, -1, 0, power), 7, 1);
        }
        edge("7: rest by 4 and by 8", one(4, 0, 8, 0, 4), one(4, 0, 8, 0, 8), 7, 1);
        edge("7: a place above the address", one(600, 0, 88, 0, 512), one(600, 0, 89, 0, 512), 7, 1);
        edge("7: 2^63 apart", one(9, 0, TOP + 9, 0, TOP), one(9, 0, TOP + 10, 0, TOP), 7, 1);
    }

    /** Three loaded segments, alike but for address and length in memory. */
    private static Sample three(long a, long aLength, long b, long bLength, long c, long cLength) {
        Sample s = Sample.tables(SIZE, 64, 3, 0, 0, 0);
        long[] addresses = {a, b, c};
        long[] lengths = {aLength, bLength, cLength};
        for (int k = 0; k < 3; k++) {
            s.segment(k, Sample.S_KIND, 1).segment(k, Sample.S_FLAGS, 1);
            s.segment(k, Sample.S_ADDRESS, addresses[k]).segment(k, Sample.S_IN_MEMORY, lengths[k]);
        }
        return s;
    }

    private static void rule8() {
        edge("8: not below the end", three(10, 5, 15, 5, 20, 5), three(10, 5, 14, 5, 20, 5), 8, 1);
        edge("8: the last one", three(10, 5, 15, 5, 20, 5), three(10, 5, 15, 5, 19, 5), 8, 2);
        edge("8: a byte of memory", three(10, 1, 11, 1, 12, 1), three(10, 1, 10, 1, 12, 1), 8, 1);
        edge("8: no byte of memory", three(10, 0, 10, 0, 10, 0), three(10, 0, 9, 0, 10, 0), 8, 1);
        edge("8: the one before alone", three(10, 9, 19, 0, 19, 0), three(10, 9, 19, 0, 18, 0), 8, 2);
        edge("8: from 0", three(0, 0, 0, 1, 1, 1), three(0, 1, 0, 1, 1, 1), 8, 1);
        edge("8: the length in the file is no end", three(10, 5, 15, 5, 20, 5).segment(0, Sample.S_IN_FILE, 3),
            three(10, 5, 13, 5, 20, 5).segment(0, Sample.S_IN_FILE, 3), 8, 1);
        edge("8: the other address is none", three(10, 5, 15, 5, 20, 5).segment(1, Sample.S_OTHER_ADDRESS, 0),
            three(10, 5, 14, 5, 20, 5).segment(1, Sample.S_OTHER_ADDRESS, 99), 8, 1);
    }

    private static void rule8WithoutWrapping() {
        edge("8: addresses without sign", three(5, 5, TOP - 1, 1, TOP, 1), three(5, 5, TOP, 1, TOP - 1, 1), 8, 2);
        edge("8: lengths without sign", three(0, TOP, TOP, 1, -1, 1), three(0, TOP, TOP - 1, 1, -1, 1), 8, 1);
        edge("8: an end of 2^64 - 1", three(0, -1, -1, 0, -1, 1), three(0, -1, -2, 0, -1, 1), 8, 1);
        edge("8: an end of 2^64", three(0, 0, -2, 1, -1, 1), three(0, 0, -2, 2, -1, 0), 8, 2);
        edge("8: 2^63 and 2^63", three(0, 0, TOP, TOP - 1, -1, 1), three(0, 0, TOP, TOP, -1, 0), 8, 2);
        verdict("8: none at 0 behind 2^64", three(0, 0, -1, 1, 0, 0), 8, 2);
        verdict("8: none at 5 behind 2^64", three(0, 0, 1, -1, 5, 1), 8, 2);
    }

    private static void rule8LoadedOnesAlone() {
        for (long kind : new long[] {0, 2, 0x101, 0x10001L, 0x1000001L, 0x80000001L, 0xFFFFFFFFL}) {
            edge("8: kind " + kind + " is not loaded, as a later one",
                three(10, 5, 3, 1, 15, 5).segment(1, Sample.S_KIND, kind), three(10, 5, 3, 1, 15, 5), 8, 1);
            edge("8: kind " + kind + " is not loaded, as one before",
                three(90, 5, 10, 5, 15, 5).segment(0, Sample.S_KIND, kind), three(90, 5, 10, 5, 15, 5), 8, 1);
            edge("8: the loaded one before kind " + kind,
                three(10, 5, 0, 0, 15, 5).segment(1, Sample.S_KIND, kind),
                three(10, 5, 0, 0, 14, 5).segment(1, Sample.S_KIND, kind), 8, 2);
        }
    }

    private static Sample entry(long entry, Sample s) {
        return s.head(Sample.KIND, 2).head(Sample.ENTRY, entry);
    }

    /** The last entry that lies in the memory of one of three segments, and the first that does not. */
    private static void entryEdge(String sentence, long in, long out, long... memory) {
        Sample allowed = three(memory[0], memory[1], memory[2], memory[3], memory[4], memory[5]);
        Sample not = three(memory[0], memory[1], memory[2], memory[3], memory[4], memory[5]);
        edge("14: " + sentence, entry(in, allowed), entry(out, not), 14, NONE);
    }

    private static void rule14() {
        entryEdge("from the begin", 10, 9, 10, 5, 30, 5, 50, 5);
        entryEdge("below the end", 14, 15, 10, 5, 30, 5, 50, 5);
        entryEdge("from the begin of the one between", 30, 29, 10, 5, 30, 5, 50, 5);
        entryEdge("below the end of the one between", 34, 35, 10, 5, 30, 5, 50, 5);
        entryEdge("from the begin of the last one", 50, 49, 10, 5, 30, 5, 50, 5);
        entryEdge("below the end of the last one", 54, 55, 10, 5, 30, 5, 50, 5);
        edge("14: a byte of memory", entry(0, three(0, 1, 30, 5, 50, 5)), entry(0, three(0, 0, 30, 5, 50, 5)),
            14, NONE);
        edge("14: by length in memory", entry(14, three(10, 5, 30, 5, 50, 5).segment(0, Sample.S_IN_FILE, 1)),
            entry(15, three(10, 5, 30, 5, 50, 5).segment(0, Sample.S_IN_FILE, 5)), 14, NONE);
        edge("14: by address, no other", entry(10, three(10, 5, 30, 5, 50, 5)),
            entry(70, three(10, 5, 30, 5, 50, 5).segment(0, Sample.S_OTHER_ADDRESS, 70)), 14, NONE);
    }

    private static void rule14AtTheTop() {
        entryEdge("the last address but one", -2, -1, 0, 0, 0, 0, -4, 3);
        entryEdge("the last address, not past it", -1, 0, 5, 1, 6, 1, -4, 4);
        entryEdge("from the begin up to the top", -4, -5, 5, 1, 6, 1, -4, 4);
        entryEdge("a length of 2^64 - 1", -2, -1, 0, 0, 0, 0, 0, -1);
        entryEdge("all but 0", 1, 0, 0, 0, 0, 0, 1, -1);
        entryEdge("below 2^63", TOP - 1, TOP, 0, 0, 0, 0, 0, TOP);
        entryEdge("from 2^63", TOP, TOP - 1, 0, 0, 0, 0, TOP, 9);
        entryEdge("over 2^63", TOP, TOP + 1, 0, 0, 0, 0, TOP - 1, 2);
    }

    private static void rule14RunAndLoaded() {
        for (long flags : new long[] {0, 2, 4, 6, 0x100, 0x80000000L, 0xFFFFFFFEL}) {
            edge("14: flags " + flags, entry(12, three(10, 5, 30, 5, 50, 5).segment(0, Sample.S_FLAGS, flags | 1)),
                entry(12, three(10, 5, 30, 5, 50, 5).segment(0, Sample.S_FLAGS, flags)), 14, NONE);
        }
        for (long kind : new long[] {0, 2, 0x101, 0x1000001L, 0xFFFFFFFFL}) {
            edge("14: kind " + kind, entry(12, three(10, 5, 30, 5, 50, 5)),
                entry(12, three(10, 5, 30, 5, 50, 5).segment(0, Sample.S_KIND, kind)), 14, NONE);
        }
        edge("14: lies in it and may be run, not one each", entry(12, three(10, 5, 30, 5, 50, 5)),
            entry(12, three(10, 5, 30, 5, 50, 5).segment(0, Sample.S_FLAGS, 6)), 14, NONE);
        good("14: another segment's room holds it too",
            entry(12, three(0, 90, 10, 5, 95, 5).segment(0, Sample.S_KIND, 6)));
    }

    private static void rule14KindsAlone() {
        for (int kind : new int[] {1, 3}) {
            edge("14: kind " + kind + " needs no entry", three(10, 5, 30, 5, 50, 5).head(Sample.KIND, kind),
                three(10, 5, 30, 5, 50, 5).head(Sample.KIND, 2), 14, NONE);
            edge("14: nor segments, kind " + kind, Sample.head().head(Sample.KIND, kind),
                Sample.head().head(Sample.KIND, 2), 14, NONE);
        }
    }
}
