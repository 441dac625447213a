import java.nio.charset.StandardCharsets;
import java.util.NoSuchElementException;
import java.util.function.LongSupplier;

/** For each promise of DOC.md: ordinary inputs, the edges that it names, and wrong inputs. */
public final class PromiseTests {
    private static final long NSE = Long.MIN_VALUE;
    private static final long IAE = Long.MIN_VALUE + 1;
    /** Reefs 0 4 7 0 2 9; off the cells of their number 2 2 2 1 2 1 flashes are seen. */
    private static final String SHORE = "cell 0;cell 4;cell 7;cell 0;cell 2;cell 9;light 1 1;light 4 2;"
            + "donkey 0 1;donkey 2 3;ship 20 5 3 4;ship 12 8 0 0;ship 30 9 9 9;door 3;door 5;sight 1;";
    private static int wrong = 0;
    private static int checked = 0;

    public static void main(String[] args) {
        promise01();
        promise02();
        promise03Ordinary();
        promise03Faults();
        promise03Stays();
        promise04Values();
        promise04Faults();
        promise05();
        promise05Limits();
        promise05Faults();
        promise06();
        promise07();
        promise08();
        promise09();
        promise10To13();
        promise14();
        promise15();
        promise16();
        promise17();
        promise18();
        promise19();
        promise20And21();
        promise22And23();
        promise24();
        promise25();
        promise26();
        promise27To29();
        promise30To33();
        promise34();
        promise35();
        promise36And37();
        promise38And39();
        System.out.println(checked + " answers asked, " + wrong + " wrong");
        System.exit(wrong == 0 ? 0 : 1);
    }

    // ------------------------------------------------------------ helpers

    private static void due(String what, long got, long want) {
        checked++;
        if (got != want) {
            wrong++;
            System.out.println(what + " answered " + name(got) + ", due is " + name(want));
        }
    }

    private static void ask(String what, LongSupplier call, long want) {
        long got;
        try {
            got = call.getAsLong();
        } catch (NoSuchElementException e) {
            got = NSE;
        } catch (IllegalArgumentException e) {
            got = IAE;
        }
        due(what, got, want);
    }

    private static String name(long answer) {
        return answer == NSE ? "NoSuchElementException" : answer == IAE ? "IllegalArgumentException" : "" + answer;
    }

    private static int feedText(DonkeyLight x, String text) {
        byte[] bytes = text.getBytes(StandardCharsets.ISO_8859_1);
        for (int i = 0; i < bytes.length; i += 20) {
            int[] n = new int[5];
            for (int j = 0; j < 20 && i + j < bytes.length; j++) {
                n[j / 4] |= (bytes[i + j] & 255) << (24 - 8 * (j % 4));
            }
            x.feed(n[0], n[1], n[2], n[3], n[4]);
        }
        return bytes.length;
    }

    private static void coast(DonkeyLight x, String text, int want) {
        int n = feedText(x, text);
        ask("coast " + text, () -> x.coast(n), want);
    }

    private static void law(DonkeyLight x, String text, int want) {
        int n = feedText(x, text);
        ask("law " + text, () -> x.law(n), want);
    }

    private static void work(DonkeyLight x, String text, int want) {
        int n = feedText(x, text);
        ask("work " + text, () -> x.work(n), want);
    }

    private static void log(DonkeyLight x, String text, int want) {
        int n = feedText(x, text);
        ask("log " + text, () -> x.log(n), want);
    }

    private static DonkeyLight at(String coast) {
        DonkeyLight x = new DonkeyLight();
        x.coast(feedText(x, coast));
        due("fault of " + coast, x.fault(), -1);
        return x;
    }

    private static void coastFault(String text, int kind, int place) {
        DonkeyLight x = new DonkeyLight();
        coast(x, text, kind - 10);
        due("fault of coast " + text, x.fault(), place);
    }

    private static void lawFault(String text, int kind, int place) {
        DonkeyLight x = new DonkeyLight();
        law(x, text, kind - 10);
        due("fault of law " + text, x.fault(), place);
    }

    private static void workFault(DonkeyLight x, String text, int kind, int place) {
        work(x, text, kind - 10);
        due("fault of work " + text, x.fault(), place);
    }

    private static void logFault(String text, int kind, int place) {
        DonkeyLight x = new DonkeyLight();
        log(x, text, kind - 10);
        due("fault of log " + text, x.fault(), place);
    }

    private static void told(DonkeyLight x, String when, int... wants) {
        for (int what = 0; what < wants.length; what++) {
            due("told(" + what + ") " + when, x.told(what), wants[what]);
        }
    }

    /** What an expression is worth, found by laws that are above 0 by just one, and not above it. */
    private static void worth(DonkeyLight x, String expression, int value) {
        int seen = 3;
        int dark = 4;
        String less = value >= 0 ? " - " + value : " + " + -value;
        law(x, "(" + expression + ")" + less, 1);
        due("at most " + value + ": " + expression, x.would(0, seen, dark, 5, 6, 7, 1) ? 1 : 0, 0);
        law(x, "(" + expression + ")" + less + " + 1", 1);
        due("at least " + value + ": " + expression, x.would(0, seen, dark, 5, 6, 7, 1) ? 1 : 0, 1);
    }

    private static String times(int n, String text) {
        return text.repeat(n);
    }

    // ------------------------------------------------------------ texts

    private static void promise01() {
        DonkeyLight x = new DonkeyLight();
        due("NONE", DonkeyLight.NONE, -1);
        told(x, "of a new one", 0, 0, 0, 0, 0, 0, 0, 0, 0, 0, 0, 0, 0);
        due("1 fault", x.fault(), -1);
        due("1 safe", x.safe(), 0);
        for (int what = 0; what < 3; what++) {
            due("1 count", x.count(what), 0);
        }
        ask("1 cell", () -> x.cell(0, 0), NSE);
        due("1 undo", x.undo(), -1);
        due("1 restore", x.restore(), -1);
    }

    private static void promise02() {
        DonkeyLight x = new DonkeyLight();
        due("2 feed", x.feed(0x63656c6c, 0x20373b00, 0, 0, 0), 20);
        due("2 coast", x.coast(7), 0);
        due("2 reef, highest byte first", x.cell(0, 0), 7);
        due("2 tape", x.count(1), 0);
        for (int i = 1; i <= 30; i++) {
            due("2 feed", x.feed(0x20202020, -1, 0, i, 0x80808080), 20 * i);
        }
        due("2 feed over 600", x.feed(0, 0, 0, 0, 0), -1);
        due("2 tape stays", x.count(1), 600);
        due("2 coast of four blanks", x.coast(4), 0);
        due("2 feed again", x.feed(0, 0, 0, 0, 0), 20);
        ask("2 a byte above 127 can't stand", () -> x.coast(20), -9);
        x.feed(0x63656c6c, 0x20313bff, 0, 0, 0);
        ask("2 byte 255", () -> x.coast(8), -9);
        due("2 byte 255 at", x.fault(), 7);
    }

    private static void promise03Ordinary() {
        DonkeyLight x = at("");
        told(x, "of an empty coast", 0, 0, 0, 0, 0);
        coast(x, "   ", 0);
        coast(x, "  cell9 ; light 0 9;donkey 00 0001;ship 40 9 9 9;ship 0 0 0 0;door 9 ;sight 5; ", 2);
        told(x, "of a coast", 1, 1, 1, 2, 1, 0, 0, 0, 0, 0, 0, 0, 0);
        due("3 reef", x.cell(0, 0), 9);
        coast(x, times(12, "cell 1;") + times(6, "light 11 1;") + times(3, "donkey 11 1;")
                + times(6, "ship 1 1 1 1;") + times(6, "door 1;") + times(3, "sight 0;") + "sight 3;", 6);
        told(x, "of a full coast", 12, 6, 3, 6, 6);
        due("3 the last sight counts", x.seen(8, 0), 9);
        due("3 the last sight counts", x.seen(7, 0), 0);
        coast(x, times(60, "sight 1;"), 0);
        coast(x, "cell 1;cell 1;cell 1;cell 1;light 0 1;", 0);
        due("3 sight 2 without", x.seen(2, 0), 1);
        due("3 sight 2 without", x.seen(3, 0), 0);
        ask("3 n", () -> x.coast(-1), IAE);
        ask("3 n", () -> x.coast(1), IAE);
        x.feed(0, 0, 0, 0, 0);
        ask("3 n", () -> x.coast(21), IAE);
        due("3 the tape stays", x.count(1), 20);
        ask("3 none of it", () -> x.coast(0), 0);
        due("3 the tape is empty", x.count(1), 0);
        smallerBehindLarger();
        cutShort("cell 1;cell 2;", 7, 0, -1);
        cutShort("cell 1;cell 2;", 6, -9, 6);
        cutShort("cell 1 ;cell 2;", 6, -9, 6);
        cutShort("cell 11;", 6, -9, 6);
        cutShort("cell 1;", 5, -9, 5);
        cutShort("cell  1;", 5, -9, 5);
        cutShort("cell 1;", 4, -9, 4);
        cutShort("cell 1;", 3, -9, 0);
    }

    /** What stands on the tape behind the text is no part of it. */
    private static void cutShort(String text, int n, int want, int place) {
        DonkeyLight x = new DonkeyLight();
        feedText(x, text);
        ask("3 the first " + n + " of " + text, () -> x.coast(n), want);
        due("3 fault", x.fault(), place);
        due("3 the tape is empty", x.count(1), 0);
    }

    private static void smallerBehindLarger() {
        DonkeyLight x = at(times(12, "cell 9;") + times(6, "light 0 1;") + times(3, "donkey 0 1;")
                + times(6, "ship 40 0 9 9;") + times(6, "door 9;") + "sight 5;");
        coast(x, "cell 2;cell 1;light 0 2;donkey 0 3;ship 3 1 0 9;door 2;", 1);
        told(x, "of the smaller", 2, 1, 1, 1, 1);
        due("3 reefs", x.reefs(0), 2);
        due("3 first", x.reefs(1), 0);
        due("3 all", x.reefs(2), 3);
        due("3 lights", x.cell(0, 1), 1);
        due("3 donkeys", x.cell(0, 2), 1);
        due("3 seen", x.seen(0, 0), 2);
        due("3 share", x.share(0, 9), 9);
        due("3 rests", x.carriers(0), 4);
        due("3 code", x.code(2, 0), 1);
        law(x, "1", 1);
        due("3 put", x.put(1, 0), 3);
        law(x, "minute - 1", 1);
        due("3 no third cell", x.safe(), 1);
        due("3 winter", x.winter(1, 9, 0, 1), 0);
    }

    private static void promise03Faults() {
        coastFault("cell", 1, 4);
        coastFault("cell  ", 1, 6);
        coastFault("cell ;", 1, 5);
        coastFault("cell 1", 1, 6);
        coastFault("cell 1  ", 1, 8);
        coastFault("cell 1,", 1, 6);
        coastFault("cell 1;;", 1, 7);
        coastFault(" cellar 1;", 1, 1);
        coastFault("cellz 1;", 1, 0);
        coastFault("acell 1;", 1, 0);
        coastFault("cel 1;", 1, 0);
        coastFault("Cell 1;", 1, 0);
        coastFault("cEll 1;", 1, 0);
        coastFault("1;", 1, 0);
        coastFault("cell -1;", 1, 5);
        coastFault("cell\t1;", 1, 4);
        coastFault("cell 10;", 2, 5);
        coastFault("cell 10", 2, 5);
        coastFault("cell 99999999999999999999;", 2, 5);
        coastFault("cell 4294967297;", 2, 5);
        coastFault("light 0 1;cell 1;", 2, 6);
        coastFault("cell 1;light 1 1;", 2, 13);
        coastFault("cell 1;light 0 0;", 2, 15);
        coastFault("cell 1;light 0  10;", 2, 16);
        coastFault("cell 1;light 0;", 1, 14);
        coastFault("cell 1;donkey 1 1;", 2, 14);
        coastFault("cell 1;donkey 0 0;", 2, 16);
        coastFault("cell 1;donkey 0 10;", 2, 16);
        coastFault("ship 41 0 0 0;", 2, 5);
        coastFault("ship 0 10 0 0;", 2, 7);
        coastFault("ship 0 0 10 0;", 2, 9);
        coastFault("ship 0 0 0 10;", 2, 11);
        coastFault("ship 1 1 1;", 1, 10);
        coastFault("ship 1 1 1 1 1;", 1, 13);
        coastFault("door 0;", 2, 5);
        coastFault("door 10;", 2, 5);
        coastFault("sight 6;", 2, 6);
        coastFault(times(13, "cell 1;"), 3, 84);
        coastFault(times(12, "cell 1;") + "  cell x;", 3, 86);
        coastFault("cell 1;" + times(7, "light 0 1;"), 3, 67);
        coastFault("cell 1;" + times(4, "donkey 0 1;"), 3, 40);
        coastFault(times(7, "ship 1 1 1 1;"), 3, 78);
        coastFault(times(7, "door 1;"), 3, 42);
        coastFault(times(61, "sight 1;"), 3, 480);
        coastFault(times(60, "sight 1;") + "cell 1;", 3, 480);
        coastFault(times(60, "sight 1;") + "cells 1;", 1, 480);
        coastFault(times(60, "sight 1;") + ";", 1, 480);
        coast(new DonkeyLight(), times(60, "sight 1;") + "  ", 0);
    }

    private static void promise03Stays() {
        DonkeyLight x = at(SHORE);
        law(x, "1", 1);
        log(x, "0 1;", 1);
        work(x, "pass 0;pass 0;", 1);
        x.image();
        coast(x, "cell 5;cell 10;", -8);
        told(x, "behind a coast that is none", 6, 2, 2, 3, 2, 0, 0, 1, 0, 20, 1, 1, 1);
        due("3 images stay", x.count(0), 1);
        due("3 works stay", x.count(2), 1);
        due("3 the tape does not", x.count(1), 0);
        due("3 the law stays", x.would(0, 0, 0, 0, 0, 0, 0) ? 1 : 0, 1);
        coast(x, SHORE, 3);
        told(x, "behind the coast anew", 6, 2, 2, 3, 2, 0, 0, 0, 0, 0, 0, 0, 0);
        due("3 no images", x.count(0), 0);
        due("3 nothing to undo", x.undo(), -1);
        due("3 no law", x.would(0, 1, 0, 0, 0, 0, 0) ? 1 : 0, 0);
        due("3 no law", x.would(0, 2, 0, 0, 0, 0, 0) ? 1 : 0, 1);
        due("3 ships have not passed", x.ship(0, 4), 0);
    }

    private static void promise04Values() {
        DonkeyLight x = at("ship 1 2 8 9;");
        worth(x, "seen", 3);
        worth(x, "dark", 4);
        worth(x, "minute", 5);
        worth(x, "cell", 6);
        worth(x, "night", 7);
        worth(x, "fog", 1);
        worth(x, "crew", 2);
        worth(x, "trust", 8);
        worth(x, "draught", 9);
        worth(x, "999", 999);
        worth(x, "007", 7);
        worth(x, "7 - 2 - 3", 2);
        worth(x, "2 + 3 * 4", 14);
        worth(x, "100 / 7 / 2", 7);
        worth(x, "100 / 7 * 2", 28);
        worth(x, "100 % 7 * 9 % 5", 3);
        worth(x, "(0 - 7) / 2", -3);
        worth(x, "(0 - 7) % 3", -1);
        worth(x, "7 % (0 - 3)", 1);
        worth(x, "7 / (0 - 2)", -3);
        worth(x, "7 / 0", 0);
        worth(x, "7 % 0", 0);
        worth(x, "least [ 4 , 9 - 2 ]", 4);
        worth(x, "most [4,9-2]", 7);
        worth(x, "least[most[1,2],least[5,3]]*2", 4);
        worth(x, "((((2))))", 2);
        worth(x, "999*999*999*3 /100/100/10 + 130*100 + 40", 1);
        worth(x, "256*256*256*256", 0);
        worth(x, "(256*256*256*128)/(0-1)/256/256/256", -128);
        worth(x, "(256*256*256*128)%(0-1)", 0);
        law(x, "256*256*256*128 - 1", 1);
        due("4 it wraps", x.would(0, 0, 0, 0, 0, 0, 0) ? 1 : 0, 1);
    }

    private static void promise04Faults() {
        lawFault("", 1, 0);
        lawFault("   ", 1, 3);
        lawFault("1 +", 1, 3);
        lawFault("1 + ", 1, 4);
        lawFault("1 1", 1, 2);
        lawFault("1 seen", 1, 2);
        lawFault("1;", 1, 1);
        lawFault("-1", 1, 0);
        lawFault("1 + * 2", 1, 4);
        lawFault("see", 1, 0);
        lawFault("seen2", 1, 4);
        lawFault("seenn", 1, 0);
        lawFault("light", 1, 0);
        lawFault("1000", 2, 0);
        lawFault("1 + 1000 x", 2, 4);
        lawFault("(1", 1, 2);
        lawFault("(1]", 1, 2);
        lawFault("()", 1, 1);
        lawFault("least 1", 1, 6);
        lawFault("least(1,2)", 1, 5);
        lawFault("least[1]", 1, 7);
        lawFault("most[1,2)", 1, 8);
        lawFault("most[1,2,3]", 1, 8);
        lawFault("most[,2]", 1, 5);
        lawFault("(((((((1)))))))", 3, 6);
        lawFault("((((((least[1,2]))))))", 3, 6);
        lawFault("((((((leas[1,2]))))))", 1, 6);
        lawFault("least[1,most[1,(least[(most[0, (1)],1)]", 3, 31);
        DonkeyLight x = at("ship 1 2 8 9;");
        law(x, "((((((1)))))) + (((((least[1,2])))))", 1);
        law(x, "0", 1);
        law(x, "1 +", -9);
        due("4 the law stays", x.would(0, 9, 0, 0, 0, 0, 0) ? 1 : 0, 0);
        feedText(x, "1" + times(159, " "));
        ask("4 n to 150", () -> x.law(151), IAE);
        ask("4 n", () -> x.law(-1), IAE);
        due("4 the tape stays", x.count(1), 160);
        ask("4 n is 150", () -> x.law(150), 1);
        due("4 the tape is empty", x.count(1), 0);
        law(x, "1" + times(74, "+1"), 1);
        law(x, times(37, "1+1*") + "1", 1);
        due("4 a long one", x.would(0, 0, 0, 0, 0, 0, 0) ? 1 : 0, 1);
        x.image();
        work(x, "", 0);
        law(x, "0", 1);
        due("4 images stay", x.count(0), 1);
        due("4 works stay", x.count(2), 1);
    }

    private static void promise05() {
        DonkeyLight x = at(SHORE);
        work(x, "", 0);
        due("5 an empty one is one", x.count(2), 1);
        work(x, " dowse 0 ; dowse 0;light 1;dowse1;light 1; ", 3);
        due("5 refused", x.told(12), 2);
        due("5 out", x.light(0, 2), 0);
        due("5 burns", x.light(1, 2), 1);
        work(x, "lead 0 0;lead 0 5;lead 0 5;lead 1 2;", 1);
        due("5 refused", x.told(12), 3);
        due("5 stands", x.donkey(0, 0), 5);
        work(x, "fog;fog;night;fog;night;night;", 5);
        due("5 night", x.told(5), 3);
        due("5 no fog", x.told(6), 0);
        due("5 refused", x.told(12), 1);
        work(x, "fog;pass 2;pass 2;night;pass 2;pass 1;", 5);
        due("5 passed", x.ship(2, 4), 1);
        due("5 passed", x.ship(0, 4), 0);
        work(x, "again 3 [ again 2 [night;];fog ; ] ;again 0[night;];again 30[];", 9);
        due("5 night", x.told(5), 10);
        due("5 fog", x.told(6), 1);
        DonkeyLight none = at("ship 9 0 0 9;");
        work(none, "pass 0;", 0);
        due("5 pass without cells", none.told(12), 1);
        due("5 not passed", none.ship(0, 4), 0);
        passes();
    }

    /** By the default law a ship steers in where it sees two flashes or more. */
    private static void passes() {
        DonkeyLight x = at(SHORE);
        work(x, "pass 0;", 1);
        told(x, "behind pass 0", 6, 2, 2, 3, 2, 0, 0, 1, 0, 20, 1, 0, 0);
        due("5 struck in 1", x.cell(1, 3), 1);
        due("5 by 0", x.ship(0, 5), 1);
        work(x, "pass 1;pass 2;", 2);
        told(x, "behind all", 6, 2, 2, 3, 2, 0, 0, 3, 0, 62, 7, 0, 0);
        due("5 struck in 2", x.cell(2, 3), 1);
        due("5 donkeys stand where they stood", x.donkey(0, 0), 0);
        law(x, "cell - 4", 1);
        work(x, "night;pass 0;pass 1;pass 2;", 4);
        told(x, "behind cell 5", 6, 2, 2, 3, 2, 1, 0, 6, 62, 62, 7, 0, 0);
        due("5 struck in 5", x.cell(5, 3), 3);
        due("5 by 0 again", x.ship(0, 5), 2);
        law(x, "0", 1);
        work(x, "night;pass 0;", 2);
        due("5 none struck", x.told(7), 6);
        due("5 yet it passed", x.ship(0, 4), 1);
        law(x, "fog", 1);
        work(x, "pass 1;fog;pass 2;", 3);
        due("5 the law knows of fog", x.told(7), 7);
        law(x, "night - 2", 1);
        work(x, "night;pass 2;", 2);
        due("5 the law knows the night", x.told(7), 8);
    }

    private static void promise05Limits() {
        DonkeyLight x = at(SHORE);
        work(x, "again 20 [again 20 [light 0;];];", 0);
        due("5 200 begun", x.told(12), 189);
        work(x, "again 30[again 7[night;];];night;", 174);
        due("5 200 begun", x.told(5), 174);
        work(x, "again 30[again 30[again 30[again 30[again 30[again 30[night;];];];];];];", 188);
        due("5 200 begun", x.told(5), 362);
        work(x, "again 30[night;night;night;night;];", 120);
        work(x, "again 30[night;];", 18);
        due("5 500 nights", x.told(5), 500);
        due("5 refused from 500 on", x.told(12), 12);
        work(x, "fog;night;pass 0;night;", 2);
        due("5 still fog", x.told(6), 1);
        for (int i = 0; i < 9; i++) {
            work(x, "", 0);
        }
        due("5 works", x.count(2), 15);
        work(x, "fog;", 0);
        due("5 works", x.count(2), 16);
        law(x, "1 1", -9);
        work(x, "oops", -20);
        due("5 no fault", x.fault(), -1);
        due("5 the tape is empty", x.count(1), 0);
        due("5 refused stays", x.told(12), 1);
        ask("5 the exception ahead", () -> x.work(1), IAE);
        due("5 undo", x.undo(), 15);
        work(x, "oops", -9);
        work(x, "", 0);
        feedText(x, times(160, " "));
        ask("5 n to 150", () -> x.work(151), IAE);
        ask("5 n", () -> x.work(-1), IAE);
        due("5 the tape stays", x.count(1), 160);
    }

    private static void promise05Faults() {
        DonkeyLight x = at(SHORE);
        workFault(x, "fog", 1, 3);
        workFault(x, "fog ", 1, 4);
        workFault(x, "fogs;", 1, 0);
        workFault(x, "pass;", 1, 4);
        workFault(x, "pass 0 0;", 1, 7);
        workFault(x, "fog;;", 1, 4);
        workFault(x, "pass 3;", 2, 5);
        workFault(x, "dowse 2;", 2, 6);
        workFault(x, "light 2;", 2, 6);
        workFault(x, "lead 2 0;", 2, 5);
        workFault(x, "lead 0 6;", 2, 7);
        workFault(x, "lead 0;", 1, 6);
        workFault(x, "again 31[];", 2, 6);
        workFault(x, "again [];", 1, 6);
        workFault(x, "again 1;", 1, 7);
        workFault(x, "again 1[fog];", 1, 11);
        workFault(x, "again 1[fog;", 1, 12);
        workFault(x, "again 1[fog;]", 1, 13);
        workFault(x, "again 1[];];", 1, 10);
        workFault(x, "]", 1, 0);
        workFault(x, times(7, "again 1["), 3, 48);
        workFault(x, times(6, "again 1[") + "agains", 1, 48);
        workFault(x, times(6, "again 1[") + "fog;", 1, 52);
        due("5 none is done", x.told(6), 0);
        due("5 none is there", x.count(2), 0);
        work(x, times(6, "again 1[") + "fog;" + times(6, "];"), 1);
        work(x, times(5, "again 1[") + "again 1[];again 1[];" + times(5, "];"), 0);
    }

    private static void promise06() {
        DonkeyLight x = at(SHORE);
        log(x, "", 0);
        log(x, " 59 1 ; 0 0; ", 2);
        due("6 lines", x.told(11), 2);
        log(x, "1 1;2 0;3 0;4 0;5 0;6 0;7 0;8 0;9 0;10 0;11 0;12 0;", 12);
        log(x, "1 2;", -8);
        due("6 the log stays", x.told(11), 12);
        due("6 the log stays", x.fits(0), 0);
        log(x, "", 0);
        due("6 no lines", x.told(11), 0);
        logFault("60 1;", 2, 0);
        logFault("1 2;", 2, 2);
        logFault("1 1;1 1;", 2, 4);
        logFault("1 1; 01 0;", 2, 5);
        logFault("1;", 1, 1);
        logFault("11;", 1, 2);
        logFault("1 1", 1, 3);
        logFault("1 1 1;", 1, 4);
        logFault("x 1;", 1, 0);
        String twelve = "1 1;2 0;3 0;4 0;5 0;6 0;7 0;8 0;9 0;10 0;11 0;12 0;";
        logFault(twelve + "13 0;", 3, 51);
        logFault(twelve + " 13 2;", 3, 52);
        logFault(twelve + "12 0;", 2, 51);
        logFault(twelve + "60 0;", 2, 51);
        logFault(twelve + ";", 1, 51);
        feedText(x, times(120, " "));
        ask("6 n to 100", () -> x.log(101), IAE);
        due("6 the tape stays", x.count(1), 120);
        ask("6 n", () -> x.log(100), 0);
    }

    private static void promise07() {
        DonkeyLight x = new DonkeyLight();
        due("7 without", x.fault(), -1);
        law(x, "1 + ?", -9);
        due("7 a fault", x.fault(), 4);
        ask("7 no text", () -> x.coast(1), IAE);
        due("7 still the latest", x.fault(), 4);
        log(x, "0 1;", 1);
        due("7 none", x.fault(), -1);
    }

    // ------------------------------------------------------------ what is

    private static void promise08() {
        DonkeyLight x = at(SHORE);
        due("8 none", x.undo(), -1);
        work(x, "dowse 0;lead 1 4;fog;", 3);
        work(x, "pass 0;pass 0;night;", 2);
        due("8 refused", x.told(12), 1);
        due("8 undo", x.undo(), 1);
        due("8 refused", x.told(12), 0);
        told(x, "behind an undo", 6, 2, 2, 3, 2, 0, 1, 0, 0, 0, 0, 0, 0);
        due("8 not passed", x.ship(0, 4), 0);
        due("8 still led", x.donkey(1, 0), 4);
        due("8 undo", x.undo(), 0);
        due("8 stands", x.donkey(1, 0), 2);
        due("8 burns", x.light(0, 2), 1);
        due("8 no fog", x.told(6), 0);
        due("8 none", x.undo(), -1);
        work(x, "pass 0;", 1);
        due("8 once more", x.undo(), 0);
        due("8 not struck", x.ship(0, 5), 0);
        due("8 not struck", x.cell(1, 3), 0);
        due("8 none alive", x.told(10), 0);
        for (int i = 1; i <= 16; i++) {
            work(x, "night;", 1);
        }
        for (int i = 15; i >= 0; i--) {
            due("8 undo", x.undo(), i);
            due("8 night", x.told(5), i);
        }
    }

    private static void promise09() {
        DonkeyLight x = at(SHORE);
        told(x, "of the shore", 6, 2, 2, 3, 2, 0, 0, 0, 0, 0, 0, 0, 0);
        ask("9 what", () -> x.told(13), IAE);
        ask("9 what", () -> x.told(-1), IAE);
        DonkeyLight y = at("cell 5;cell 5;ship 7 5 0 1;ship 9 6 0 1;");
        law(y, "cell", 1);
        work(y, "pass 0;pass 1;fog;fog;", 3);
        told(y, "of two wrecks", 2, 0, 0, 2, 0, 0, 1, 2, 7, 9, 1, 0, 1);
    }

    private static void promise10To13() {
        DonkeyLight x = at(SHORE);
        work(x, "dowse 0;lead 0 2;pass 2;", 3);
        due("10 reef", x.cell(5, 0), 9);
        due("10 lights that burn", x.cell(1, 1), 0);
        due("10 lights that burn", x.cell(4, 1), 1);
        due("10 donkeys", x.cell(2, 2), 2);
        due("10 donkeys", x.cell(0, 2), 0);
        ask("10 what", () -> x.cell(0, 4), IAE);
        ask("10 what", () -> x.cell(0, -1), IAE);
        ask("10 cell", () -> x.cell(6, 0), NSE);
        ask("10 cell ahead of what", () -> x.cell(-1, 9), NSE);
        due("11 X", x.light(1, 0), 4);
        due("11 P", x.light(1, 1), 2);
        due("11 out", x.light(0, 2), 0);
        due("11 burns", x.light(1, 2), 1);
        ask("11 what", () -> x.light(1, 3), IAE);
        ask("11 light", () -> x.light(2, 3), NSE);
        due("12 X", x.donkey(0, 0), 2);
        due("12 P", x.donkey(1, 1), 3);
        ask("12 what", () -> x.donkey(1, 2), IAE);
        ask("12 donkey", () -> x.donkey(2, 2), NSE);
        int[] second = {30, 9, 9, 9, 1, 1};
        for (int what = 0; what < second.length; what++) {
            due("13 ship", x.ship(2, what), second[what]);
        }
        int[] first = {20, 5, 3, 4, 0, 0};
        for (int what = 0; what < first.length; what++) {
            due("13 ship", x.ship(0, what), first[what]);
        }
        ask("13 what", () -> x.ship(0, 6), IAE);
        ask("13 ship", () -> x.ship(3, 6), NSE);
        ask("13 ship", () -> x.ship(-1, 0), NSE);
    }

    private static void promise14() {
        DonkeyLight x = at(SHORE);
        int[] seen = {2, 2, 2, 1, 2, 1};
        for (int m = 0; m < 6; m++) {
            due("14 seen", x.seen(m, m), seen[m]);
        }
        due("14 off 5 in 6: the donkeys are at the last", x.seen(5, 6), 3);
        due("14 off 5 in 99", x.seen(5, 99), 2);
        due("14 off 0 in 99", x.seen(0, 99), 1);
        ask("14 minute", () -> x.seen(0, 100), IAE);
        ask("14 minute", () -> x.seen(0, -1), IAE);
        ask("14 cell", () -> x.seen(6, 100), NSE);
        work(x, "fog;", 1);
        due("14 in fog", x.seen(0, 0), 1);
        due("14 in fog", x.seen(1, 1), 2);
        work(x, "dowse 0;lead 0 4;", 2);
        due("14 out", x.seen(1, 1), 0);
        due("14 led", x.seen(5, 1), 1);
        DonkeyLight y = at("cell 0;cell 0;cell 0;cell 0;light 0 1;sight 5;");
        due("14 sight 5", y.seen(3, 0), 1);
        work(y, "fog;", 1);
        due("14 5 by 2 is 2", y.seen(2, 0), 1);
        due("14 5 by 2 is 2", y.seen(3, 0), 0);
    }

    private static void promise15() {
        DonkeyLight x = at(SHORE);
        due("15 two", x.would(1, 2, 20, 11, 11, 500, 1) ? 1 : 0, 1);
        due("15 one", x.would(1, 1, 0, 0, 0, 0, 0) ? 1 : 0, 0);
        due("15 twenty", x.would(1, 20, 0, 0, 0, 0, 0) ? 1 : 0, 1);
        int[] most = {2, 20, 20, 11, 11, 500, 1};
        for (int i = 1; i < most.length; i++) {
            int[] a = {0, 0, 0, 0, 0, 0, 0};
            a[i] = most[i] + 1;
            ask("15 too much " + i, () -> x.would(a[0], a[1], a[2], a[3], a[4], a[5], a[6]) ? 1 : 0, IAE);
            int[] b = {0, 0, 0, 0, 0, 0, 0};
            b[i] = -1;
            ask("15 too little " + i, () -> x.would(b[0], b[1], b[2], b[3], b[4], b[5], b[6]) ? 1 : 0, IAE);
        }
        ask("15 ship ahead", () -> x.would(3, 21, 0, 0, 0, 0, 0) ? 1 : 0, NSE);
        law(x, "trust * 100 + crew * 10 + draught - 354 + 1", 1);
        due("15 ship 0", x.would(0, 0, 0, 0, 0, 0, 0) ? 1 : 0, 1);
        due("15 ship 1", x.would(1, 0, 0, 0, 0, 0, 0) ? 1 : 0, 0);
        work(x, "fog;", 1);
        law(x, "fog", 1);
        due("15 fog as told, not as is", x.would(1, 0, 0, 0, 0, 0, 0) ? 1 : 0, 0);
        due("15 the try knows", x.tried(0, 0), 1);
    }

    private static void promise16() {
        DonkeyLight x = at(SHORE);
        int[][] wants = {{1, 3, 1, 0, 4}, {2, 7, 1, 0, 6}, {1, 3, 5, 0, 4}};
        for (int ship = 0; ship < 3; ship++) {
            for (int what = 0; what < 5; what++) {
                due("16 tried " + ship + " " + what, x.tried(ship, what), wants[ship][what]);
            }
        }
        work(x, "pass 0;", 1);
        due("16 whether it passed or not", x.tried(0, 0), 1);
        due("16 nothing stays", x.told(7), 1);
        law(x, "cell - 4", 1);
        int[] last = {5, 32, 0, 20, 10};
        for (int what = 0; what < 5; what++) {
            due("16 at the last", x.tried(0, what), last[what]);
        }
        law(x, "3 - cell * 3", 1);
        int[] safe = {-1, 1, 5, 0, 10};
        for (int what = 0; what < 5; what++) {
            due("16 safe", x.tried(0, what), safe[what]);
        }
        ask("16 what", () -> x.tried(0, 5), IAE);
        ask("16 what", () -> x.tried(0, -1), IAE);
        ask("16 ship", () -> x.tried(3, 5), NSE);
        DonkeyLight none = at("ship 9 4 0 9;");
        int[] away = {-1, 0, 4, 0, 0};
        for (int what = 0; what < 5; what++) {
            due("16 without cells", none.tried(0, what), away[what]);
        }
        darkness();
        depth();
    }

    private static void darkness() {
        DonkeyLight x = at("cell 9;cell 9;cell 9;cell 9;cell 9;cell 9;light 2 2;sight 0;ship 1 0 0 0;");
        law(x, "dark - 2", 1);
        due("16 seen in 2; dark 3 in 5", x.tried(0, 0), 5);
        law(x, "dark", 1);
        due("16 dark without one: its minute", x.tried(0, 0), 1);
        law(x, "dark * 8 - minute * 2", 1);
        due("16 dark is 0 in 2", x.tried(0, 1), 2);
        work(x, "dowse 0;", 1);
        law(x, "dark - 4", 1);
        due("16 dark all along", x.tried(0, 0), 5);
        due("16 minute and cell", x.tried(0, 4), 0);
    }

    private static void depth() {
        DonkeyLight x = at("cell 0;cell 1;cell 5;ship 9 5 0 4;ship 9 5 0 5;ship 9 6 0 9;ship 9 5 0 1;ship 9 5 0 0;");
        law(x, "1", 1);
        due("16 1 and 4 are 5", x.tried(0, 0), 2);
        due("16 1 and 5 are 6", x.tried(1, 0), 1);
        due("16 0 is none", x.tried(2, 0), 1);
        due("16 5 and 1", x.tried(3, 0), 2);
        due("16 5 and 0", x.tried(4, 0), -1);
        due("16 nobody", x.tried(0, 2), 0);
        due("16 parish", x.tried(0, 3), 9);
        due("16 four", x.tried(1, 2), 4);
        due("16 held", x.tried(1, 3), 0);
    }

    private static void promise17() {
        DonkeyLight x = at(SHORE);
        due("17 none", x.safe(), 0);
        law(x, "trust", 1);
        due("17 the second", x.safe(), 2);
        law(x, "0", 1);
        due("17 all", x.safe(), 7);
        due("17 without cells", at("ship 1 1 1 1;ship 1 1 1 1;").safe(), 3);
    }

    // ------------------------------------------------------------ what is best

    private static void promise18() {
        DonkeyLight x = at("cell 0;cell 0;cell 9;cell 9;donkey 3 1;donkey 3 2;ship 7 9 0 0;ship 5 0 9 0;sight 0;");
        law(x, "seen - 1", 1);
        due("18 both", x.put(3, 0), 12);
        due("18 both start in 0", x.put(3, 1), 0);
        law(x, "2 - seen - dark * 9 - (2 - cell) * (2 - cell) * 9", 1);
        due("18 one in 2", x.put(3, 0), 12);
        due("18 0 with the ship, 1 not", x.put(3, 1), 0x10);
        due("18 of one", x.put(2, 0), 5);
        due("18 of none", x.put(0, 0), 0);
        due("18 of none the first", x.put(0, 1), 0);
        law(x, "cell - 2", 1);
        due("18 whatever they do", x.put(1, 1), 0);
        due("18 donkeys stay", x.donkey(0, 0), 3);
        ask("18 ships", () -> x.put(4, 0), IAE);
        ask("18 ships", () -> x.put(-1, 0), IAE);
        ask("18 what", () -> x.put(3, 2), IAE);
        ask("18 what", () -> x.put(3, -1), IAE);
        DonkeyLight y = at("cell 0;cell 0;cell 0;cell 9;light 3 1;donkey 0 3;donkey 0 1;donkey 0 1;sight 0;ship 9 0 0 0;");
        law(y, "minute / 3 * (5 - seen)", 1);
        due("18 all are at the last in 3", y.put(1, 0), 9);
        law(y, "minute / 3 * (4 - seen)", 1);
        due("18 wherever they stand", y.put(1, 0), 0);
        due("18 without donkeys", at("cell 9;ship 3 3 3 3;light 0 1;").put(1, 1), 0);
        due("18 without cells", at("ship 3 3 3 3;").put(1, 0), 0);
        donkeysByOne();
    }

    /** One flash in minute 1 alone leads in: the donkey must be in cell 1 there, so stand in 0. */
    private static void donkeysByOne() {
        DonkeyLight x = at("cell 0;cell 9;cell 0;cell 0;donkey 3 1;donkey 3 1;sight 0;ship 4 2 0 0;");
        law(x, "(2 - seen) * seen", 1);
        due("18 just one", x.put(1, 0), 4);
        due("18 the first stays with it, the other not", x.put(1, 1), 0x10);
        law(x, "(seen - 1) * (1 - dark)", 1);
        due("18 two", x.put(1, 1), 0);
        law(x, "1 - seen", 1);
        due("18 none", x.put(1, 1), 0x11);
    }

    private static void promise19() {
        DonkeyLight x = at(SHORE);
        law(x, "2 - seen", 1);
        due("19 safe", x.save(0), 3);
        due("19 X", x.save(1), 4);
        due("19 P", x.save(2), 1);
        ask("19 what", () -> x.save(3), IAE);
        ask("19 what", () -> x.save(-1), IAE);
        DonkeyLight none = at("ship 1 1 1 1;");
        for (int what = 0; what < 3; what++) {
            due("19 without cells", none.save(what), -1);
        }
        ask("19 what without cells", () -> none.save(3), IAE);
        DonkeyLight y = at("cell 0;cell 0;cell 9;cell 0;ship 1 1 1 1;ship 1 1 1 9;" + times(6, "light 3 7;") + "sight 0;");
        law(y, "1 - seen", 1);
        due("19 a 7th light", y.save(0), 2);
        due("19 at the reef", y.save(1), 2);
        due("19 in minute 2", y.save(2), 1);
        due("19 no light stays", y.told(1), 6);
        law(y, "seen + minute - 1", 1);
        due("19 none helps", y.save(0), 0);
        due("19 the first", y.save(1), 0);
        due("19 the first", y.save(2), 1);
        DonkeyLight z = at("cell 9;cell 9;cell 9;cell 9;ship 1 1 1 1;sight 5;");
        law(z, "seen * minute", 1);
        due("19 not each minute", z.save(2), 4);
        due("19 not each minute", z.save(0), 1);
        work(z, "fog;", 1);
        due("19 in fog not so far", z.save(2), 3);
        due("19 no ships", at("cell 1;").save(0), 0);
        unlikeViews();
        due("19 no ships", at("cell 1;").save(2), 1);
    }

    /** A lamp that is seen where another would leave as many minutes dark. */
    private static void unlikeViews() {
        DonkeyLight ten = at(times(10, "cell 0;") + "cell 9;ship 1 1 1 1;");
        law(ten, "1 - seen", 1);
        due("19 not dark in 10", ten.save(0), 1);
        due("19 not dark in 10", ten.save(1), 8);
        due("19 not dark in 10", ten.save(2), 1);
        DonkeyLight eleven = at(times(11, "cell 0;") + "cell 9;ship 1 1 1 1;");
        law(eleven, "1 - seen", 1);
        due("19 not dark in 11", eleven.save(0), 1);
        due("19 not dark in 11", eleven.save(1), 9);
        law(eleven, "dark * 2 + seen * 99 - 12", 1);
        due("19 six minutes dark", eleven.save(1), 3);
        due("19 six minutes dark", eleven.save(2), 1);
        DonkeyLight nine = at(times(6, "cell 0;") + "cell 9;cell 0;cell 0;cell 9;ship 1 1 1 1;sight 5;");
        law(nine, "(7 - minute) * seen + (minute - 7) * (1 - seen)", 1);
        due("19 seen in 9, not in 6", nine.save(0), 1);
        due("19 seen in 9, not in 6", nine.save(1), 4);
        due("19 seen in 9, not in 6", nine.save(2), 9);
        DonkeyLight two = at("cell 0;cell 9;ship 1 1 1 1;light 1 1;light 1 1;light 1 1;sight 0;");
        law(two, "4 - seen", 1);
        due("19 one more is four", two.save(0), 1);
        due("19 one more is four", two.save(1), 1);
        law(two, "5 - seen", 1);
        due("19 one more is not five", two.save(0), 0);
    }

    private static void promise20And21() {
        DonkeyLight x = new DonkeyLight();
        due("20 all", x.fits(0), 45);
        due("20 first", x.fits(1), 10);
        due("21 minute", x.look(0), 0);
        due("21 worst", x.look(1), 36);
        log(x, "0 1;1 0;", 2);
        due("20 A is 0, P not 1", x.fits(0), 8);
        due("20 first", x.fits(1), 20);
        due("21 by 2, 3, 4 or 6: four flash", x.look(0), 12);
        due("21 four left", x.look(1), 4);
        log(x, "7 1;", 1);
        due("20 a remainder for each P", x.fits(0), 9);
        due("20 first", x.fits(1), 10);
        log(x, "7 1;8 0;9 0;10 0;", 4);
        due("20 from 4 on", x.fits(0), 6);
        due("20 first", x.fits(1), 43);
        log(x, "7 1;16 1;8 0;", 3);
        due("20 3 by 1 and 9 by 7", x.fits(0), 2);
        due("20 first", x.fits(1), 31);
        due("21 parts them", x.look(0), 1);
        due("21 parts them", x.look(1), 1);
        log(x, "0 1;1 1;2 0;", 3);
        due("20 none", x.fits(0), 0);
        due("20 none", x.fits(1), -1);
        due("21 of alike ones the first not told", x.look(0), 3);
        due("21 none left", x.look(1), 0);
        ask("20 what", () -> x.fits(2), IAE);
        ask("20 what", () -> x.fits(-1), IAE);
        ask("21 what", () -> x.look(2), IAE);
        ask("21 what", () -> x.look(-1), IAE);
    }

    private static void promise22And23() {
        DonkeyLight x = at(SHORE);
        due("22 P 1 and 3: 4 of 8", x.code(3, 0), 4);
        due("22 000", x.code(3, 1), 0);
        due("22 each of 2 is made", x.code(2, 0), 0);
        due("22 none", x.code(2, 1), -1);
        due("23 shortest", x.shortest(), 3);
        DonkeyLight y = at("cell 0;donkey 0 9;donkey 0 5;donkey 0 1;");
        due("22 1", y.code(1, 0), 0);
        due("22 2: 11 by P 1", y.code(2, 0), 0);
        due("22 3: 101, 011, 110 are not", y.code(3, 0), 3);
        due("22 3: the first minute the lowest", y.code(3, 1), 3);
        due("23 3", y.shortest(), 3);
        due("22 8: P 9 makes 9, P 5 three more, P 1 one", y.code(8, 0), 243);
        due("22 8: 00000011 is not", y.code(8, 1), 3);
        DonkeyLight z = at("cell 0;donkey 0 2;");
        due("22 2: 00 is not", z.code(2, 0), 2);
        due("22 2: 00 is not", z.code(2, 1), 0);
        due("22 1: both", z.code(1, 0), 0);
        due("23 2", z.shortest(), 2);
        due("23 1 without", new DonkeyLight().shortest(), 1);
        due("22 all without", new DonkeyLight().code(8, 0), 256);
        due("23 P 1: 0 is not", at("cell 0;donkey 0 1;").shortest(), 1);
        ask("22 n", () -> x.code(0, 0), IAE);
        ask("22 n", () -> x.code(9, 0), IAE);
        ask("22 what", () -> x.code(1, 2), IAE);
        ask("22 what", () -> x.code(1, -1), IAE);
    }

    private static void promise24() {
        DonkeyLight x = new DonkeyLight();
        int[][] wants = {
            {8, 8, 4, 1, 2, 4, 7}, {0, 8, 4, 1, 2, 0, 1}, {16, 0, 16, 1, 1, 0, 1}, {8, 12, 3, 2, 4, 256, 425},
            {16, 5, 5, 0, 6, 1, 1}, {8, 0, 0, 1, 1, 0, 1}, {0, 0, 0, 1, 1, 0, 1}, {4, 0, 0, 0, 0, 1, 4},
            {16, 16, 0, 6, 6, 1, 1}, {8, 16, 16, 6, 6, 1, 2}, {15, 16, 15, 6, 6, 16777216, 17536591},
            {5, 1, 2, 0, 3, 16875, 47059}, {1, 1, 2, 1, 1, 1, 31}};
        for (int[] w : wants) {
            for (int part = 0; part < 2; part++) {
                int p = part;
                ask("24 wink", () -> x.wink(w[0], w[1], w[2], w[3], w[4], p), w[5 + part]);
            }
        }
        int[] most = {16, 16, 16, 3, 6, 1};
        for (int i = 0; i < most.length; i++) {
            int[] a = {1, 1, 1, 1, 3, 0};
            a[i] = i == 3 ? 4 : most[i] + 1;
            ask("24 too much " + i, () -> x.wink(a[0], a[1], a[2], a[3], a[4], a[5]), IAE);
            int[] b = {1, 1, 1, 1, 3, 0};
            b[i] = -1;
            ask("24 too little " + i, () -> x.wink(b[0], b[1], b[2], b[3], b[4], b[5]), IAE);
        }
    }

    private static void promise25() {
        DonkeyLight x = at("cell 9;");
        due("25 caught", x.carriers(0), 1);
        due("25 first", x.carriers(1), 0);
        due("25 have", x.carriers(2), -3);
        DonkeyLight none = at("cell 0;cell 0;");
        due("25 no reef", none.carriers(0), 0);
        due("25 first", none.carriers(1), -1);
        due("25 have", none.carriers(2), 0);
        DonkeyLight three = at("cell 0;cell 5;cell 0;");
        due("25 beside it, too", three.carriers(0), 3);
        due("25 first: 1 and 0", three.carriers(1), 100);
        due("25 have", three.carriers(2), -3);
        DonkeyLight four = at("cell 0;cell 0;cell 1;cell 2;cell 0;cell 3;");
        due("25 one cell is beside all but one", four.carriers(0), 0);
        DonkeyLight two = at("cell 0;cell 3;cell 3;cell 0;");
        due("25 1 and 2 are both watched from 1 and 2", two.carriers(0), 4);
        due("25 first", two.carriers(1), 101);
        due("25 without cells", new DonkeyLight().carriers(1), -1);
        ask("25 what", () -> two.carriers(3), IAE);
        ask("25 what", () -> two.carriers(-1), IAE);
    }

    private static void promise26() {
        DonkeyLight x = at("door 3;door 5;");
        due("26 3 and 6 eighths", x.share(0, 10), 4);
        due("26 6 and 2 eighths", x.share(1, 10), 6);
        due("26 none", x.share(1, 0), 0);
        due("26 all", x.share(0, 999) + x.share(1, 999), 999);
        due("26 374 and 5 eighths", x.share(0, 999), 375);
        DonkeyLight y = at("door 2;door 1;door 1;door 2;");
        int[] wants = {2, 1, 1, 1};
        for (int door = 0; door < 4; door++) {
            due("26 5 of 6: 1 and 4, 0 and 5, 0 and 5, 1 and 4", y.share(door, 5), wants[door]);
        }
        int[] two = {1, 0, 0, 1};
        for (int door = 0; door < 4; door++) {
            due("26 2 of 6", y.share(door, 2), two[door]);
        }
        DonkeyLight z = at("door 1;door 1;door 1;door 9;");
        int[] seven = {1, 1, 0, 5};
        for (int door = 0; door < 4; door++) {
            due("26 7 of 12: 7 left thrice, 5 and 3", z.share(door, 7), seven[door]);
        }
        ask("26 n", () -> x.share(0, 1000), IAE);
        ask("26 n", () -> x.share(0, -1), IAE);
        ask("26 door", () -> x.share(2, 1000), NSE);
        ask("26 door", () -> x.share(-1, 5), NSE);
    }

    // ------------------------------------------------------------ what follows from the coast

    private static void promise27To29() {
        DonkeyLight x = at(SHORE);
        int[] drawn = {0, 5, 7, 0, 5, 7};
        for (int cell = 0; cell < 6; cell++) {
            due("27 drawn", x.drawn(cell), drawn[cell]);
        }
        ask("27 cell", () -> x.drawn(6), NSE);
        ask("27 cell", () -> x.drawn(-1), NSE);
        due("28 now", x.flash(1, 4), 4);
        due("28 later", x.flash(1, 5), 6);
        due("28 zero", x.flash(1, 0), 0);
        work(x, "dowse 1;", 1);
        due("28 burns it or not", x.flash(1, 99), 100);
        ask("28 m", () -> x.flash(1, 100), IAE);
        ask("28 m", () -> x.flash(1, -1), IAE);
        ask("28 light", () -> x.flash(2, 100), NSE);
        due("29 both, though it is out", x.alike(1, 1, 0), 17043521);
        due("29 both", x.alike(0, 0, 0), (1 << 30) - 1);
        due("29 just one", x.alike(0, 0, 1), 0);
        due("29 just one", x.alike(0, 1, 1), 0x2aaaaaaa);
        int just = 0;
        for (int m = 0; m < 30; m++) {
            just |= m % 6 == 2 || m % 6 == 3 || m % 6 == 4 ? 1 << m : 0;
        }
        due("29 by 2 or by 3", x.alike(1, 1, 1), just);
        ask("29 what", () -> x.alike(0, 0, 2), IAE);
        ask("29 donkey", () -> x.alike(2, 0, 2), NSE);
        ask("29 light", () -> x.alike(0, 2, 2), NSE);
    }

    private static void promise30To33() {
        DonkeyLight x = at(SHORE);
        due("30 never", x.blind(0), -1);
        work(x, "dowse 0;dowse 1;lead 0 5;lead 1 5;", 4);
        due("30 at once", x.blind(0), 0);
        due("30 in the last", at("cell 0;cell 0;light 0 1;sight 0;ship 1 1 1 1;").blind(0), 1);
        ask("30 ship", () -> x.blind(3), NSE);
        work(x, "light 0;", 1);
        due("30 behind 2", x.blind(0), 3);
        due("30 without cells", at("ship 1 1 1 1;").blind(0), -1);
        law(x, "1", 1);
        due("30 struck ahead of it", x.blind(0), -1);
        due("31 row", x.reefs(0), 2);
        due("31 first", x.reefs(1), 1);
        due("31 all", x.reefs(2), 22);
        DonkeyLight three = at("cell 1;cell 0;cell 1;cell 1;cell 1;cell 0;cell 2;cell 2;cell 2;");
        due("31 row", three.reefs(0), 3);
        due("31 the first of alike ones", three.reefs(1), 2);
        due("31 all", three.reefs(2), 10);
        DonkeyLight none = at("cell 0;");
        DonkeyLight ahead = at("cell 1;cell 2;cell 0;cell 3;cell 4;");
        due("31 row at the head", ahead.reefs(0), 2);
        due("31 first is 0", ahead.reefs(1), 0);
        DonkeyLight single = at("cell 0;cell 3;");
        due("31 a row of one", single.reefs(1), 1);
        due("31 none", none.reefs(0), 0);
        due("31 none", none.reefs(1), -1);
        due("31 none", none.reefs(2), 0);
        ask("31 what", () -> none.reefs(3), IAE);
        ask("31 what", () -> none.reefs(-1), IAE);
        due("32 the first of alike ones", x.brightest(0), 0);
        due("32 how many", x.brightest(1), 1);
        due("32 no flash", none.brightest(0), 0);
        due("32 no flash", none.brightest(1), 0);
        due("32 without cells", new DonkeyLight().brightest(0), -1);
        due("32 without cells", new DonkeyLight().brightest(1), -1);
        ask("32 what", () -> x.brightest(2), IAE);
        ask("32 what", () -> x.brightest(-1), IAE);
        DonkeyLight y = at(SHORE);
        int[] all = {3, 62, 7};
        int[] second = {1, 12, 1};
        for (int what = 0; what < 3; what++) {
            due("33 all", y.wrecks(7, what), all[what]);
            due("33 the second", y.wrecks(2, what), second[what]);
            due("33 none", y.wrecks(0, what), 0);
        }
        ask("33 ships", () -> y.wrecks(8, 0), IAE);
        ask("33 ships", () -> y.wrecks(-1, 0), IAE);
        ask("33 what", () -> y.wrecks(7, 3), IAE);
        law(y, "0", 1);
        due("33 safe", y.wrecks(7, 2), 0);
    }

    private static void promise34() {
        DonkeyLight none = new DonkeyLight();
        due("34 all in fog", none.winter(5, 9, 16, 3), 9);
        due("34 none in fog", none.winter(5, 96, 0, 3), 0);
        due("34 two in fog", none.winter(5, 9, 4, 3), 2);
        DonkeyLight x = at(SHORE);
        law(x, "1", 1);
        due("34 each night one", x.winter(77, 96, 8, 0), 96);
        law(x, "fog", 1);
        due("34 as often as there is fog", x.winter(77, 96, 8, 0), x.winter(77, 96, 8, 3));
        law(x, "3 - night", 1);
        due("34 nights go on", x.winter(77, 96, 0, 0), 3);
        work(x, "fog;pass 0;", 2);
        due("34 in this winter only", x.winter(77, 96, 0, 0), 3);
        due("34 the fog that is there", x.winter(77, 96, 0, 3), 1);
        due("34 nothing stays", x.told(5), 0);
        due("34 nothing stays", x.told(7), 1);
        work(x, "again 30[again 20[night;];];", 189);
        work(x, "again 30[again 20[night;];];", 189);
        work(x, "again 30[again 20[night;];];", 122);
        law(x, "night - 500", 1);
        due("34 beyond 500", x.winter(77, 96, 0, 0), 95);
        drawnByHand();
        due("34 one night", x.winter(77, 1, 0, 0), 0);
        DonkeyLight alone = at("cell 9;ship 5 0 0 0;ship 5 0 0 0;");
        law(alone, "1", 1);
        work(alone, "pass 0;pass 1;", 2);
        due("34 its cargo only", alone.winter(77, 3, 0, 1), 15);
        DonkeyLight one = at("cell 2;ship 5 9 0 9;");
        law(one, "1", 1);
        work(one, "pass 0;", 1);
        due("34 of those only", one.winter(77, 1, 0, 2), 7);
        due("34 one ship is enough", one.winter(77, 2, 0, 0), 2);
        ask("34 nights", () -> x.winter(1, 0, 0, 0), IAE);
        ask("34 nights", () -> x.winter(1, 97, 0, 0), IAE);
        ask("34 q", () -> x.winter(1, 1, -1, 0), IAE);
        ask("34 q", () -> x.winter(1, 1, 17, 0), IAE);
        ask("34 what", () -> x.winter(1, 1, 0, 4), IAE);
        ask("34 what", () -> x.winter(1, 1, 0, -1), IAE);
    }

    /** The seed is drawn from by hand here: a draw for the fog and one for the ship in each night. */
    private static void drawnByHand() {
        DonkeyLight x = at("cell 9;ship 1 0 0 9;ship 2 9 0 9;ship 40 9 0 9;ship 4 1 0 9;ship 7 9 0 9;light 0 1;sight 0;");
        law(x, "1", 1);
        int[] cargo = {1, 2, 40, 4, 7};
        int[] seeds = {0, 1, -1, 5, Integer.MAX_VALUE, Integer.MIN_VALUE, 123456789};
        for (int first : seeds) {
            int seed = first;
            int sum = 0;
            int fog = 0;
            for (int night = 0; night < 20; night++) {
                seed = seed * 1103515245 + 12345;
                fog += (seed >>> 16) % 32768 % 16 < 5 ? 1 : 0;
                seed = seed * 1103515245 + 12345;
                sum += cargo[(seed >>> 16) % 32768 % 5];
            }
            due("34 cargo by hand", x.winter(first, 20, 5, 1), sum);
            due("34 fog by hand", x.winter(first, 20, 5, 3), fog);
            due("34 nobody is alive", x.winter(first, 20, 5, 2), 0);
        }
    }

    private static void promise35() {
        DonkeyLight x = at(SHORE);
        law(x, "(cell - 4) * fog", 1);
        int least = Integer.MAX_VALUE;
        int most = 0;
        int calm = 0;
        int first = Integer.MAX_VALUE - 3;
        for (int i = 0; i < 20; i++) {
            int cargo = x.winter(first + i, 5, 4, 1);
            least = Math.min(least, cargo);
            most = Math.max(most, cargo);
            calm += x.winter(first + i, 5, 4, 0) == 0 ? 1 : 0;
        }
        due("35 least", x.span(first, 20, 5, 4, 0), least);
        due("35 most", x.span(first, 20, 5, 4, 1), most);
        due("35 calm", x.span(first, 20, 5, 4, 2), calm);
        due("35 some are calm, some not", calm > 0 && calm < 20 ? 1 : 0, 1);
        due("35 of one", x.span(9, 1, 5, 4, 0), x.winter(9, 5, 4, 1));
        due("35 of one", x.span(9, 1, 5, 4, 1), x.winter(9, 5, 4, 1));
        due("35 one night", x.span(1, 1, 1, 0, 2), 1);
        ask("35 many", () -> x.span(1, 0, 1, 0, 0), IAE);
        ask("35 many", () -> x.span(1, 21, 1, 0, 0), IAE);
        ask("35 nights", () -> x.span(1, 1, 0, 0, 0), IAE);
        ask("35 nights", () -> x.span(1, 1, 97, 0, 0), IAE);
        ask("35 q", () -> x.span(1, 1, 1, -1, 0), IAE);
        ask("35 q", () -> x.span(1, 1, 1, 17, 0), IAE);
        ask("35 what", () -> x.span(1, 1, 1, 1, 3), IAE);
        ask("35 what", () -> x.span(1, 1, 1, 1, -1), IAE);
    }

    // ------------------------------------------------------------ images

    private static void promise36And37() {
        DonkeyLight x = at(SHORE);
        due("37 none", x.restore(), -1);
        due("36 one", x.image(), 1);
        work(x, "dowse 0;lead 1 4;fog;pass 0;", 4);
        due("36 two", x.image(), 2);
        work(x, "night;pass 1;dowse 1;dowse 1;", 3);
        due("36 three", x.image(), 3);
        due("36 there are 3", x.image(), -1);
        due("36 still 3", x.count(0), 3);
        due("36 refused stays", x.told(12), 1);
        work(x, "light 0;light 0;", 1);
        due("37 two left", x.restore(), 2);
        due("37 refused", x.told(12), 0);
        due("37 out", x.light(0, 2), 0);
        due("37 out", x.light(1, 2), 0);
        due("37 works", x.count(2), 2);
        due("37 night", x.told(5), 1);
        due("37 undo is as it was", x.undo(), 1);
        due("37 night", x.told(5), 0);
        due("37 burns", x.light(1, 2), 1);
        due("37 one left", x.restore(), 1);
        told(x, "behind the second restore", 6, 2, 2, 3, 2, 0, 1, 1, 0, 20, 3, 0, 0);
        due("37 passed", x.ship(0, 4), 1);
        due("37 none left", x.restore(), 0);
        told(x, "behind the third restore", 6, 2, 2, 3, 2, 0, 0, 0, 0, 0, 0, 0, 0);
        due("37 stands", x.donkey(1, 0), 2);
        due("37 nothing to undo", x.undo(), -1);
        work(x, "fog;fog;", 1);
        due("37 none", x.restore(), -1);
        due("37 nothing was restored", x.told(12), 1);
        undoneBehindAnImage();
    }

    private static void undoneBehindAnImage() {
        DonkeyLight x = at(SHORE);
        work(x, "lead 0 1;", 1);
        work(x, "lead 0 2;", 1);
        due("37 image", x.image(), 1);
        due("37 undo", x.undo(), 1);
        due("37 undo", x.undo(), 0);
        work(x, "lead 0 5;", 1);
        law(x, "0", 1);
        log(x, "1 1;", 1);
        due("37 restore", x.restore(), 0);
        due("37 stands in 2", x.donkey(0, 0), 2);
        due("37 the law is no part of it", x.safe(), 7);
        due("37 nor is the log", x.told(11), 1);
        due("37 undo", x.undo(), 1);
        due("37 stands in 1", x.donkey(0, 0), 1);
        due("37 undo", x.undo(), 0);
        due("37 stands in 0", x.donkey(0, 0), 0);
        due("37 undo", x.undo(), -1);
        worksBehindAnImage();
    }

    private static void worksBehindAnImage() {
        DonkeyLight x = at(SHORE);
        work(x, "lead 0 1;", 1);
        work(x, "lead 0 2;", 1);
        due("37 image", x.image(), 1);
        due("37 undo", x.undo(), 1);
        due("37 undo", x.undo(), 0);
        work(x, "lead 0 5;", 1);
        work(x, "lead 0 4;", 1);
        due("37 image", x.image(), 2);
        due("37 restore", x.restore(), 1);
        due("37 stands in 4", x.donkey(0, 0), 4);
        due("37 undo", x.undo(), 1);
        due("37 stands in 5", x.donkey(0, 0), 5);
        due("37 restore", x.restore(), 0);
        due("37 stands in 2", x.donkey(0, 0), 2);
        due("37 undo", x.undo(), 1);
        due("37 stands in 1, not 5", x.donkey(0, 0), 1);
    }

    private static void promise38And39() {
        DonkeyLight x = at(SHORE);
        due("38 none", x.status(0), 0);
        due("38 none", x.status(1), 0);
        due("38 others", x.status(2), -1);
        due("38 others", x.status(-1), -1);
        due("36 image", x.image(), 1);
        ask("38", () -> x.cell(9, 9), NSE);
        ask("38", () -> x.cell(0, 9), IAE);
        ask("38", () -> x.told(99), IAE);
        ask("38", () -> x.coast(99), IAE);
        work(x, "pass 9;", -8);
        due("38 missing", x.status(0), 1);
        due("38 wrong", x.status(1), 3);
        due("37 restore", x.restore(), 0);
        due("38 no image keeps it", x.status(0), 1);
        due("38 no image keeps it", x.status(1), 3);
        coast(x, "", 0);
        due("38 nor does a coast change it", x.status(1), 3);
        x.feed(1, 2, 3, 4, 5);
        due("36 image", x.image(), 1);
        due("36 image", x.image(), 2);
        work(x, "", 0);
        due("39 images", x.count(0), 2);
        due("39 tape", x.count(1), 0);
        x.feed(1, 2, 3, 4, 5);
        due("39 tape", x.count(1), 20);
        due("39 works", x.count(2), 1);
        due("39 others", x.count(3), -1);
        due("39 others", x.count(-1), -1);
    }
}
