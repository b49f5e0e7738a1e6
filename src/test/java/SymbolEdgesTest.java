/** Rules 12 and 13: each sentence at the last value that it allows and at the first that it does not. */
public final class SymbolEdgesTest extends Verdict {
    private static final int SIZE = 640;
    private static final int ROOM = 400;
    private static final int COUNT = 4;

    public static void main(String[] args) {
        rule12Entries();
        rule12Length();
        rule12Link();
        rule12Info();
        rule12SymbolsAlone();
        rule13Name();
        rule13Section();
        rule13Local();
        rule13Zeros();
        rule13MostSymbols();
        rule13NoSymbols();
        Expect.end();
    }

    /** Sections none, names (a single 0), symbols (four, two of them local), texts (9 zeros); no segments. */
    private static Sample four() {
        Sample s = Sample.tables(SIZE, 0, 0, 64, 4, 639);
        s.section(2, Sample.T_KIND, 2).section(2, Sample.T_PLACE, ROOM).section(2, Sample.T_LENGTH, 24 * COUNT);
        s.section(2, Sample.T_ENTRY, 24).section(2, Sample.T_LINK, 3).section(2, Sample.T_INFO, 2);
        s.section(3, Sample.T_KIND, 3).section(3, Sample.T_PLACE, 600).section(3, Sample.T_LENGTH, 9);
        return symbol(symbol(s, 2, 4, 16), 3, 4, 16);
    }

    private static Sample with(int part, long value) {
        return four().section(2, part, value);
    }

    private static Sample symbol(Sample s, int i, int part, long value) {
        int length = part == 0 ? 4 : part == 6 ? 2 : part < 8 ? 1 : 8;
        return s.put(ROOM + 24 * i + part, length, value);
    }

    private static Sample symbol(int i, int part, long value) {
        return symbol(four(), i, part, value);
    }

    private static void rule12Entries() {
        for (long length : new long[] {0, 12, 23, 25, 48, -24, -1}) {
            edge("12: entries have 24 bytes", with(Sample.T_ENTRY, 24), with(Sample.T_ENTRY, length), 12, 2);
        }
        for (int bit = 5; bit < 64; bit++) {
            verdict("12: entries with bit " + bit, with(Sample.T_ENTRY, 24 + (1L << bit)), 12, 2);
        }
    }

    private static void rule12Length() {
        for (int count = 0; count <= COUNT; count++) {
            Sample s = with(Sample.T_INFO, Math.min(count, 2)).section(2, Sample.T_LENGTH, 24 * count);
            good("12: a length of " + count + " times 24", s);
            for (int more = 1; more < 24; more++) {
                verdict("12: and " + more, s.section(2, Sample.T_LENGTH, 24 * count + more), 12, 2);
            }
        }
    }

    private static void rule12Link() {
        edge("12: its link is the last section", with(Sample.T_LINK, 3), with(Sample.T_LINK, 4), 12, 2);
        edge("12: or the names' section", with(Sample.T_LINK, 1), with(Sample.T_LINK, 0), 12, 2);
        edge("12: but not itself", with(Sample.T_LINK, 3), with(Sample.T_LINK, 2), 12, 2);
        for (int bit = 3; bit < 32; bit++) {
            verdict("12: link with bit " + bit, with(Sample.T_LINK, 1 + (1L << bit)), 12, 2);
        }
        verdict("12: link without sign", with(Sample.T_LINK, 0xFFFFFFFFL), 12, 2);
        for (int kind : new int[] {0, 1, 4, 5, 6, 7, 8, 9, 10, 11}) {
            edge("12: a link of texts, not of kind " + kind, four(), four().section(3, Sample.T_KIND, kind), 12, 2);
        }
    }

    private static void rule12Info() {
        Sample all = symbol(symbol(2, 4, 15), 3, 4, 15);
        good("12: info as many as symbols", all.section(2, Sample.T_INFO, COUNT));
        verdict("12: info one more", all.section(2, Sample.T_INFO, COUNT + 1), 12, 2);
        for (int bit = 3; bit < 32; bit++) {
            verdict("12: info with bit " + bit, with(Sample.T_INFO, 2 + (1L << bit)), 12, 2);
        }
        verdict("12: info without sign", with(Sample.T_INFO, 0xFFFFFFFFL), 12, 2);
        edge("12: info of a single symbol", with(Sample.T_LENGTH, 24).section(2, Sample.T_INFO, 1),
            with(Sample.T_LENGTH, 24).section(2, Sample.T_INFO, 2), 12, 2);
        edge("12: info of no symbol", with(Sample.T_LENGTH, 0).section(2, Sample.T_INFO, 0),
            with(Sample.T_LENGTH, 0).section(2, Sample.T_INFO, 1), 12, 2);
    }

    private static void rule12SymbolsAlone() {
        for (int kind : new int[] {0, 1, 4, 5, 6, 7, 8, 9, 10, 11}) {
            Sample s = with(Sample.T_ENTRY, 5).section(2, Sample.T_LENGTH, 25).section(2, Sample.T_LINK, 9)
                .section(2, Sample.T_INFO, 9).put(ROOM, 8, -1);
            verdict("12: of symbols", s, 12, 2);
            good("12: not of kind " + kind, s.section(2, Sample.T_KIND, kind));
        }
    }

    private static void rule13Name() {
        for (int i = 1; i < COUNT; i++) {
            edge("13: the name of symbol " + i, symbol(i, 0, 8), symbol(i, 0, 9), 13, 2);
            edge("13: by the linked section, symbol " + i, symbol(i, 0, 0).section(2, Sample.T_LINK, 1),
                symbol(i, 0, 1).section(2, Sample.T_LINK, 1), 13, 2);
            for (int bit = 4; bit < 32; bit++) {
                verdict("13: name of 2^" + bit, symbol(i, 0, 1L << bit), 13, 2);
            }
            verdict("13: name without sign", symbol(i, 0, 0xFFFFFFFFL), 13, 2);
        }
    }

    private static void rule13Section() {
        for (int i = 1; i < COUNT; i++) {
            edge("13: section below how many, symbol " + i, symbol(i, 6, 3), symbol(i, 6, 4), 13, 2);
            edge("13: section 65521, symbol " + i, symbol(i, 6, 65521), symbol(i, 6, 65520), 13, 2);
            edge("13: section 65522, symbol " + i, symbol(i, 6, 65522), symbol(i, 6, 65523), 13, 2);
            for (int section : new int[] {0x100, 0x101, 0xF1, 0xF2, 0x7FFF, 0x8000, 0x8001, 0xFF00, 65535}) {
                verdict("13: section " + section, symbol(i, 6, section), 13, 2);
            }
        }
        good("13: section 0", symbol(1, 6, 0));
    }

    private static void rule13Local() {
        for (int low = 0; low < 16; low++) {
            edge("13: symbol 1 is local, low bits " + low, symbol(1, 4, low), symbol(1, 4, 16 + low), 13, 2);
            edge("13: symbol 2 is not, low bits " + low, symbol(2, 4, 16 + low), symbol(2, 4, low), 13, 2);
            edge("13: symbol 3 is not, low bits " + low, symbol(3, 4, 240 + low), symbol(3, 4, low), 13, 2);
        }
        for (int binding = 1; binding < 16; binding++) {
            good("13: not local by binding " + binding, symbol(2, 4, 16 * binding));
            verdict("13: not local by binding " + binding, symbol(1, 4, 16 * binding), 13, 2);
        }
        verdict("13: symbol 1 is not below an info of 1", with(Sample.T_INFO, 1), 13, 2);
        verdict("13: symbol 2 is below an info of 3", with(Sample.T_INFO, 3), 13, 2);
        edge("13: info 1 and 2 with a local symbol 1", with(Sample.T_INFO, 2), with(Sample.T_INFO, 1), 13, 2);
        edge("13: info 2 and 3 with symbol 2 not local", with(Sample.T_INFO, 2), with(Sample.T_INFO, 3), 13, 2);
    }

    private static void rule13Zeros() {
        for (int i = 0; i < 24; i++) {
            for (int value : new int[] {1, 128}) {
                edge("13: byte " + i + " of symbol 0", four(), four().put(ROOM + i, 1, value), 13, 2);
            }
        }
        edge("13: symbol 0 with a name that is there", symbol(1, 0, 1), symbol(0, 0, 1), 13, 2);
        edge("13: symbol 0 with a section that is there", symbol(1, 6, 1), symbol(0, 6, 1), 13, 2);
        edge("13: symbol 0 with other bits", symbol(1, 5, 255), symbol(0, 5, 255), 13, 2);
        edge("13: symbol 0 with a value", symbol(1, 8, -1), symbol(0, 8, 1), 13, 2);
        edge("13: symbol 0 with a size", symbol(1, 16, -1), symbol(0, 16, 1), 13, 2);
        edge("13: no byte before symbol 0", four().put(ROOM - 1, 1, 1), four().put(ROOM, 1, 1), 13, 2);
        edge("13: symbol 0 below info", with(Sample.T_LENGTH, 24).section(2, Sample.T_INFO, 1),
            with(Sample.T_LENGTH, 24).section(2, Sample.T_INFO, 0), 13, 2);
        verdict("13: symbol 0 is zeros, and so never other than local", four().put(ROOM + 4, 1, 16)
            .section(2, Sample.T_INFO, 0).section(2, Sample.T_LENGTH, 24), 13, 2);
    }

    /** Three sections and fifteen symbols, which end with the file; only one byte is free. */
    private static void rule13MostSymbols() {
        Sample s = Sample.tables(SIZE, 0, 0, 64, 3, 256);
        s.section(2, Sample.T_KIND, 2).section(2, Sample.T_PLACE, 280).section(2, Sample.T_LENGTH, 360);
        s.section(2, Sample.T_ENTRY, 24).section(2, Sample.T_LINK, 1).section(2, Sample.T_INFO, 15);
        good("13: fifteen symbols", s);
        good("13: the last one's section", s.put(280 + 24 * 14 + 6, 2, 2));
        verdict("13: the last one's section is not there", s.put(280 + 24 * 14 + 6, 2, 3), 13, 2);
        verdict("12: sixteen in the info", s.section(2, Sample.T_INFO, 16), 12, 2);
    }

    private static void rule13NoSymbols() {
        Sample s = with(Sample.T_LENGTH, 0).section(2, Sample.T_INFO, 0).put(ROOM, 8, -1);
        good("13: no symbol 0 without symbols", s);
        verdict("13: there is one with 24 bytes", s.section(2, Sample.T_LENGTH, 24), 13, 2);
        Sample fewer = symbol(2, 0, 99).section(2, Sample.T_LENGTH, 48);
        edge("13: no symbol 2 of two", fewer, symbol(2, 0, 99).section(2, Sample.T_LENGTH, 72), 13, 2);
    }
}
