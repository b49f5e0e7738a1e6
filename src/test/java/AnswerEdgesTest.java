import java.util.Arrays;

/** Promises 7 to 13 and the terms behind them: numbers without sign, names, and the first and last of each row. */
public final class AnswerEdgesTest extends Verdict {
    private static final int SIZE = 640;
    private static final long PATTERN = 0x0807060504030201L;
    private static final long[] EIGHT = {0, 1, PATTERN, 0xFF, 0x100, 0xFFFFFFFFL, 1L << 32, TOP - 1, TOP, TOP + 1, -1};
    private static final long[] FOUR = {0, 1, 0x04030201L, 0xFF, 0x100, 0x7FFFFFFFL, 0x80000000L, 0xFFFFFFFFL};

    public static void main(String[] args) {
        manyRows();
        segmentNumbers();
        segmentAlignments();
        sectionNumbers();
        sectionLengths();
        lowestByteFirst();
        symbolNumbers();
        symbolBindings();
        lettersOfAllValues();
        longestName();
        namesToTheNextZero();
        firstAndLastRows();
        whats();
        symbolsOfEachKind();
        findEdges();
        findAtTheTop();
        findOfLoadedOnesAlone();
        Expect.end();
    }

    private static void manyRows() {
        for (int count = 0; count <= 10; count++) {
            FileJudge x = Sample.tables(SIZE, 64, count, 0, 0, 0).judged();
            int last = count - 1;
            Expect.answer("7: segments", count, () -> x.many(0));
            Expect.answer("7: no sections", 0, () -> x.many(1));
            Expect.noElement("8: segment " + count, () -> x.segment(last + 1, 0));
            if (count > 0) {
                Expect.answer("8: segment " + last, 0, () -> x.segment(last, 0));
            }
        }
        for (int count = 2; count <= 8; count++) {
            FileJudge x = Sample.tables(SIZE, 0, 0, 128, count, 64).judged();
            int last = count - 1;
            Expect.answer("7: no segments", 0, () -> x.many(0));
            Expect.answer("7: sections", count, () -> x.many(1));
            Expect.noElement("9: section " + count, () -> x.section(last + 1, 0));
            Expect.answer("9: section " + last, last == 1 ? 3 : 0, () -> x.section(last, 0));
            Expect.noElement("11: symbols of " + count, () -> x.symbols(last + 1));
            Expect.answer("11: symbols of " + last, 0, () -> x.symbols(last));
            Expect.noElement("10: letter of " + count, () -> x.letter(last + 1, 0));
            Expect.noElement("12: symbol of " + count, () -> x.symbol(last + 1, 0, 0));
        }
    }

    private static void segmentNumbers() {
        for (long value : FOUR) {
            FileJudge x = Sample.tables(SIZE, 64, 2, 0, 0, 0).segment(1, Sample.S_KIND, value)
                .segment(1, Sample.S_FLAGS, ~value).judged();
            Expect.answer("8: kind", value, () -> x.segment(1, 0));
            Expect.answer("8: flags", ~value & 0xFFFFFFFFL, () -> x.segment(1, 1));
        }
        for (long value : EIGHT) {
            FileJudge x = Sample.tables(SIZE, 64, 2, 0, 0, 0).segment(1, Sample.S_ADDRESS, value)
                .segment(1, Sample.S_OTHER_ADDRESS, ~value).segment(0, Sample.S_IN_MEMORY, value).judged();
            Expect.answer("8: address", value, () -> x.segment(1, 3));
            Expect.answer("8: length in memory", value, () -> x.segment(0, 5));
            Expect.answer("8: no length in memory", 0, () -> x.segment(1, 5));
        }
        for (int place : new int[] {0, 1, 255, 256, 257, 513, 640}) {
            FileJudge x = Sample.tables(SIZE, 64, 2, 0, 0, 0).segment(1, Sample.S_PLACE, place)
                .segment(1, Sample.S_IN_FILE, SIZE - place).segment(1, Sample.S_IN_MEMORY, 700).judged();
            Expect.answer("8: place", place, () -> x.segment(1, 2));
            Expect.answer("8: length in the file", SIZE - place, () -> x.segment(1, 4));
            Expect.answer("8: length in memory", 700, () -> x.segment(1, 5));
        }
    }

    private static void segmentAlignments() {
        for (int bit = 0; bit < 64; bit++) {
            long power = 1L << bit;
            FileJudge x = Sample.tables(SIZE, 64, 2, 0, 0, 0).segment(1, Sample.S_ALIGNMENT, power).judged();
            Expect.answer("8: alignment 2^" + bit, power, () -> x.segment(1, 6));
            Expect.answer("8: alignment 0", 0, () -> x.segment(0, 6));
        }
    }

    /** Section 2 of three, of kind 1, with 192 bytes of rows from 128 on. */
    private static Sample three() {
        return Sample.tables(SIZE, 0, 0, 128, 3, 64).section(2, Sample.T_KIND, 1);
    }

    private static void sectionNumbers() {
        for (long value : EIGHT) {
            FileJudge x = three().section(2, Sample.T_FLAGS, value).judged();
            Expect.answer("9: flags", value, () -> x.section(2, 1));
        }
        for (long value : FOUR) {
            FileJudge x = three().section(2, Sample.T_LINK, value).section(2, Sample.T_INFO, ~value).judged();
            Expect.answer("9: link", value, () -> x.section(2, 4));
            Expect.answer("9: info", ~value & 0xFFFFFFFFL, () -> x.section(2, 5));
        }
        for (int place : new int[] {320, 511, 512, 513, 640}) {
            FileJudge x = three().section(2, Sample.T_PLACE, place).section(2, Sample.T_LENGTH, SIZE - place).judged();
            Expect.answer("9: place", place, () -> x.section(2, 2));
            Expect.answer("9: length", SIZE - place, () -> x.section(2, 3));
        }
        for (int kind : new int[] {0, 1, 4, 5, 6, 7, 8, 9, 10, 11}) {
            FileJudge x = three().section(2, Sample.T_KIND, kind).judged();
            Expect.answer("9: kind", kind, () -> x.section(2, 0));
        }
    }

    /** The room of kinds 0 and 8 has length 0, but their row tells any length. */
    private static void sectionLengths() {
        for (int kind : new int[] {0, 8}) {
            for (long value : EIGHT) {
                FileJudge x = three().section(2, Sample.T_KIND, kind).section(2, Sample.T_LENGTH, value).judged();
                Expect.answer("9: length told by kind " + kind, value, () -> x.section(2, 3));
                Expect.answer("11: but no symbols", 0, () -> x.symbols(2));
            }
        }
    }

    private static void lowestByteFirst() {
        Sample s = three();
        for (int i = 0; i < 8; i++) {
            s.put(256 + Sample.T_FLAGS + i, 1, i + 1);
        }
        for (int i = 0; i < 4; i++) {
            s.put(256 + Sample.T_LINK + i, 1, i + 1).put(256 + Sample.T_INFO + i, 1, 255 - i);
        }
        FileJudge x = s.judged();
        Expect.answer("8 bytes", 0x0807060504030201L, () -> x.section(2, 1));
        Expect.answer("4 bytes", 0x04030201L, () -> x.section(2, 4));
        Expect.answer("4 bytes without sign", 0xFCFDFEFFL, () -> x.section(2, 5));
        FileJudge y = Sample.full().put(Sample.SYMBOLS_PLACE + 48 + 6, 1, 0xF1)
            .put(Sample.SYMBOLS_PLACE + 48 + 7, 1, 0xFF).judged();
        Expect.answer("2 bytes without sign", 65521, () -> y.symbol(3, 2, 2));
    }

    private static void symbolNumbers() {
        for (long value : EIGHT) {
            FileJudge x = sym(1, Sample.Y_VALUE, value).symbolPart(1, Sample.Y_SIZE, ~value).judged();
            Expect.answer("12: value", value, () -> x.symbol(3, 1, 0));
            Expect.answer("12: size", ~value, () -> x.symbol(3, 1, 1));
        }
        for (int section : new int[] {0, 1, 5, 65521, 65522}) {
            FileJudge x = sym(1, Sample.Y_SECTION, section).judged();
            Expect.answer("12: section", section, () -> x.symbol(3, 1, 2));
        }
    }

    private static void symbolBindings() {
        for (int info = 0; info < 256; info++) {
            int due = info / 16;
            int i = due == 0 ? 1 : 2;
            FileJudge x = sym(i, Sample.Y_INFO, info).symbolPart(i, Sample.Y_OTHER, 255 - info).judged();
            Expect.answer("12: binding of " + info, due, () -> x.symbol(3, i, 3));
        }
    }

    /** Names with all bytes but 0: the name of section 2 has 255 characters. */
    private static void lettersOfAllValues() {
        Sample s = three().section(1, Sample.T_PLACE, 320).section(1, Sample.T_LENGTH, 257);
        s.section(2, Sample.T_NAME, 1);
        for (int value = 1; value < 256; value++) {
            s.put(320 + value, 1, value);
        }
        FileJudge x = s.judged();
        Expect.answer("9: characters", 255, () -> x.section(2, 6));
        for (int i = 0; i < 255; i++) {
            int at = i;
            Expect.answer("10: letter " + i, i + 1, () -> x.letter(2, at));
        }
        Expect.noElement("10: letter 255", () -> x.letter(2, 255));
        Expect.noElement("10: letter -1", () -> x.letter(2, -1));
    }

    /** Two sections leave 448 bytes: a name of 446, from the second byte to the last but one of the file. */
    private static void longestName() {
        Sample s = Sample.tables(SIZE, 0, 0, 64, 2, 192).section(1, Sample.T_LENGTH, 448).section(1, Sample.T_NAME, 1);
        Arrays.fill(s.bytes, 193, 639, (byte) 200);
        FileJudge x = s.judged();
        Expect.answer("9: the longest name", 446, () -> x.section(1, 6));
        Expect.answer("10: its first letter", 200, () -> x.letter(1, 0));
        Expect.answer("10: its last letter", 200, () -> x.letter(1, 445));
        Expect.noElement("10: behind it", () -> x.letter(1, 446));
        Expect.answer("9: section 0 has no name", 0, () -> x.section(0, 6));
        FileJudge y = s.section(1, Sample.T_NAME, 446).judged();
        Expect.answer("9: the last letter alone", 1, () -> y.section(1, 6));
        FileJudge z = s.section(1, Sample.T_NAME, 447).judged();
        Expect.answer("9: at the last 0 of the file", 0, () -> z.section(1, 6));
        Expect.noElement("10: no letter there", () -> z.letter(1, 0));
    }

    private static void namesToTheNextZero() {
        String texts = "\0abc\0\0de\0";
        int[] due = {0, 3, 2, 1, 0, 0, 2, 1, 0};
        for (int name = 0; name < due.length; name++) {
            int count = due[name];
            FileJudge x = three().section(1, Sample.T_PLACE, 320).section(1, Sample.T_LENGTH, 9).text(320, texts)
                .text(329, "xyz").section(2, Sample.T_NAME, name).judged();
            Expect.answer("9: characters from " + name, count, () -> x.section(2, 6));
            for (int i = 0; i < count; i++) {
                int at = i;
                Expect.answer("10: letter " + i + " from " + name, texts.charAt(name + i), () -> x.letter(2, at));
            }
            Expect.noElement("10: no letter " + count + " from " + name, () -> x.letter(2, count));
            FileJudge y = Sample.full().text(Sample.TEXTS_PLACE, "\0abc\0d\0\0").symbolPart(1, Sample.Y_NAME, name % 8)
                .judged();
            int[] dueOfSymbol = {0, 3, 2, 1, 0, 1, 0, 0};
            int part = dueOfSymbol[name % 8];
            Expect.answer("12: characters from " + name % 8, part, () -> y.symbol(3, 1, 4));
        }
    }

    /** Of each row the first and the last are answered, the ones beside are not there. */
    private static void firstAndLastRows() {
        FileJudge x = Sample.segments().judged();
        Expect.noElement("8: segment -1", () -> x.segment(-1, 0));
        Expect.answer("8: segment 0", 0x1000, () -> x.segment(0, 3));
        Expect.answer("8: segment 3", -16, () -> x.segment(3, 3));
        Expect.noElement("8: segment 4", () -> x.segment(4, 0));
        FileJudge y = Sample.full().judged();
        Expect.noElement("9: section -1", () -> y.section(-1, 0));
        Expect.answer("9: section 0", 0, () -> y.section(0, 0));
        Expect.answer("9: section 5", 8, () -> y.section(5, 0));
        Expect.noElement("9: section 6", () -> y.section(6, 0));
        Expect.noElement("10: section -1", () -> y.letter(-1, 0));
        Expect.noElement("10: section 0 has no letter", () -> y.letter(0, 0));
        Expect.answer("10: first letter", '.', () -> y.letter(1, 0));
        Expect.answer("10: last letter", 'a', () -> y.letter(1, 2));
        Expect.noElement("10: letter 3", () -> y.letter(1, 3));
        Expect.noElement("10: section 6", () -> y.letter(6, 0));
        Expect.noElement("11: section -1", () -> y.symbols(-1));
        Expect.answer("11: section 0", 0, () -> y.symbols(0));
        Expect.answer("11: section 5", 0, () -> y.symbols(5));
        Expect.noElement("11: section 6", () -> y.symbols(6));
        Expect.noElement("12: section -1", () -> y.symbol(-1, 0, 0));
        Expect.noElement("12: section 2, of no symbols", () -> y.symbol(2, 0, 0));
        Expect.noElement("12: symbol -1", () -> y.symbol(3, -1, 0));
        Expect.answer("12: symbol 0", 0, () -> y.symbol(3, 0, 0));
        Expect.answer("12: symbol 2", TOP, () -> y.symbol(3, 2, 0));
        Expect.noElement("12: symbol 3", () -> y.symbol(3, 3, 0));
        Expect.noElement("12: section 6", () -> y.symbol(6, 0, 0));
    }

    private static void whats() {
        FileJudge x = Sample.full().judged();
        for (int what : new int[] {-1, 2, 256, Integer.MIN_VALUE, Integer.MAX_VALUE}) {
            Expect.noArgument("7: what " + what, () -> x.many(what));
        }
        for (int what : new int[] {-1, 7, 256, Integer.MIN_VALUE, Integer.MAX_VALUE}) {
            Expect.noArgument("8: what " + what, () -> x.segment(0, what));
            Expect.noArgument("9: what " + what, () -> x.section(1, what));
        }
        for (int what : new int[] {-1, 5, 256, Integer.MIN_VALUE, Integer.MAX_VALUE}) {
            Expect.noArgument("12: what " + what, () -> x.symbol(3, 1, what));
        }
        Expect.answer("7: what 0", 1, () -> x.many(0));
        Expect.answer("7: what 1", 6, () -> x.many(1));
        Expect.answer("8: what 0", 1, () -> x.segment(0, 0));
        Expect.answer("8: what 6", 0x1000, () -> x.segment(0, 6));
        Expect.answer("9: what 0", 3, () -> x.section(1, 0));
        Expect.answer("9: what 6", 3, () -> x.section(1, 6));
        Expect.answer("12: what 0", 5, () -> x.symbol(3, 1, 0));
        Expect.answer("12: what 4", 4, () -> x.symbol(3, 1, 4));
    }

    private static void symbolsOfEachKind() {
        for (int kind : new int[] {0, 1, 4, 5, 6, 7, 8, 9, 10, 11}) {
            FileJudge x = sec(3, Sample.T_KIND, kind).judged();
            Expect.answer("11: kind " + kind, 0, () -> x.symbols(3));
            Expect.noElement("12: kind " + kind, () -> x.symbol(3, 0, 0));
        }
        for (int count = 0; count <= 3; count++) {
            int last = count - 1;
            Sample s = sec(3, Sample.T_LENGTH, 24 * count).section(3, Sample.T_INFO, Math.min(count, 2));
            FileJudge x = s.judged();
            Expect.answer("11: " + count, count, () -> x.symbols(3));
            Expect.noElement("12: symbol " + count + " of as many", () -> x.symbol(3, last + 1, 3));
            if (count > 0) {
                Expect.answer("12: symbol " + last, count == 3 ? 15 : 0, () -> x.symbol(3, last, 3));
            }
        }
    }

    private static Sample loaded(long address, long length) {
        return Sample.tables(SIZE, 64, 2, 0, 0, 0).segment(1, Sample.S_KIND, 1)
            .segment(1, Sample.S_ADDRESS, address).segment(1, Sample.S_IN_MEMORY, length);
    }

    private static void find(Sample s, long address, int due) {
        FileJudge x = s.judged();
        Expect.answer("13: " + address, due, () -> x.find(address));
    }

    private static void findEdges() {
        find(loaded(10, 5), 9, NONE);
        find(loaded(10, 5), 10, 1);
        find(loaded(10, 5), 14, 1);
        find(loaded(10, 5), 15, NONE);
        find(loaded(10, 1), 10, 1);
        find(loaded(10, 1), 11, NONE);
        find(loaded(10, 0), 10, NONE);
        find(loaded(10, 0), 9, NONE);
        find(loaded(0, 1), 0, 1);
        find(loaded(0, 0), 0, NONE);
        find(loaded(10, 5), -1, NONE);
        find(loaded(10, 5).segment(1, Sample.S_IN_FILE, 2), 14, 1);
        find(loaded(10, 5).segment(1, Sample.S_OTHER_ADDRESS, 90), 90, NONE);
        find(loaded(10, 5), (1L << 32) + 10, NONE);
    }

    private static void findAtTheTop() {
        find(loaded(-1, 1), -1, 1);
        find(loaded(-1, 1), -2, NONE);
        find(loaded(-1, 1), 0, NONE);
        find(loaded(-1, 0), -1, NONE);
        find(loaded(1, -1), -1, 1);
        find(loaded(1, -1), 1, 1);
        find(loaded(1, -1), 0, NONE);
        find(loaded(0, -1), -2, 1);
        find(loaded(0, -1), -1, NONE);
        find(loaded(TOP, 1), TOP, 1);
        find(loaded(TOP, 1), TOP - 1, NONE);
        find(loaded(TOP, 1), TOP + 1, NONE);
        find(loaded(TOP - 1, 2), TOP - 1, 1);
        find(loaded(TOP - 1, 2), TOP, 1);
        find(loaded(TOP - 1, 2), TOP + 1, NONE);
        find(loaded(TOP, TOP), -1, 1);
        find(loaded(0, TOP), TOP - 1, 1);
        find(loaded(0, TOP), TOP, NONE);
    }

    private static void findOfLoadedOnesAlone() {
        for (long kind : new long[] {0, 2, 0x101, 0x1000001L, 0x80000001L, 0xFFFFFFFFL}) {
            find(loaded(10, 5).segment(1, Sample.S_KIND, kind), 12, NONE);
        }
        for (long flags : new long[] {0, 1, 0xFFFFFFFFL}) {
            find(loaded(10, 5).segment(1, Sample.S_FLAGS, flags), 12, 1);
        }
        Sample both = loaded(10, 5).segment(0, Sample.S_ADDRESS, 5).segment(0, Sample.S_IN_MEMORY, 50);
        find(both, 12, 1);
        find(both, 9, NONE);
        Sample beside = loaded(10, 5).segment(0, Sample.S_KIND, 1).segment(0, Sample.S_IN_MEMORY, 10);
        find(beside, 9, 0);
        find(beside, 10, 1);
        find(Sample.head(), 0, NONE);
    }
}
