import java.nio.charset.StandardCharsets;
import java.util.NoSuchElementException;
import java.util.function.IntToLongFunction;
import java.util.function.LongSupplier;

/** For each sentence of DOC.md that names a boundary case a test of its own, under the sentence's own words. */
public final class BoundaryTests {
    private static final long NSE = Long.MIN_VALUE;
    private static final long IAE = Long.MIN_VALUE + 1;
    /** Reefs 0 4 7 0 2 9; in the minute of their number 2 2 2 1 2 1 flashes are seen off the cells. */
    private static final String SHORE = "cell 0;cell 4;cell 7;cell 0;cell 2;cell 9;light 1 1;light 4 2;"
            + "donkey 0 1;donkey 2 3;ship 20 5 3 4;ship 12 8 0 0;ship 30 9 9 9;door 3;door 5;sight 1;";
    private static String words = "";
    private static int sentences = 0;
    private static int checked = 0;
    private static int wrong = 0;

    public static void main(String[] args) {
        whatItIs();
        coastText();
        coastNumbers();
        lawText();
        lawValues();
        lawDarkness();
        workText();
        logText();
        signsOfTexts();
        faultsFirst();
        faultsTooMany();
        atFirst();
        stepsBegun();
        stepsRefused();
        passing();
        sight();
        striking();
        asked();
        ways();
        flashes();
        rowsOfMinutes();
        fractions();
        coastalGames();
        winters();
        draws();
        promises1To3();
        promises4To6();
        promise5Full();
        promises7To9();
        promises10To13();
        promises14And15();
        promises16And17();
        promises18And19();
        promises20To23();
        promises24To26();
        promises27To30();
        promises31To33();
        promises34And35();
        promises36And37();
        promises38And39();
        System.out.println(sentences + " sentences, " + checked + " answers asked, " + wrong + " wrong");
        System.exit(wrong == 0 ? 0 : 1);
    }

    // ------------------------------------------------------------ helpers

    private static void sentence(String ofTheDocument, Runnable test) {
        words = ofTheDocument;
        sentences++;
        int before = checked;
        test.run();
        if (checked == before) {
            say("asked nothing");
        }
    }

    private static void say(String fault) {
        wrong++;
        System.out.println("\"" + words + "\": " + fault);
    }

    private static void is(long got, long want) {
        checked++;
        if (got != want) {
            say("answered " + name(got) + ", due is " + name(want) + caller());
        }
    }

    private static void is(boolean got, boolean want) {
        is(got ? 1 : 0, want ? 1 : 0);
    }

    private static void same(String got, String want) {
        checked++;
        if (!got.equals(want)) {
            say("is " + got + ", was " + want + caller());
        }
    }

    private static String caller() {
        for (StackTraceElement e : new Throwable().getStackTrace()) {
            if (e.getMethodName().startsWith("lambda")) {
                return " (line " + e.getLineNumber() + ")";
            }
        }
        return "";
    }

    private static String name(long answer) {
        return answer == NSE ? "NoSuchElementException" : answer == IAE ? "IllegalArgumentException" : "" + answer;
    }

    private static long answer(LongSupplier call) {
        try {
            return call.getAsLong();
        } catch (NoSuchElementException e) {
            return NSE;
        } catch (IllegalArgumentException e) {
            return IAE;
        }
    }

    private static boolean isThrown(long answer) {
        return answer == NSE || answer == IAE;
    }

    private static void missing(LongSupplier call) {
        is(answer(call), NSE);
    }

    private static void bad(LongSupplier call) {
        is(answer(call), IAE);
    }

    /** From least to most it is taken; what is less or more is not. */
    private static void onlyFromTo(int least, int most, IntToLongFunction call) {
        for (int number = least; number <= most; number++) {
            int n = number;
            is(isThrown(answer(() -> call.applyAsLong(n))), false);
        }
        for (int number : new int[] {least - 1, most + 1, Integer.MIN_VALUE, Integer.MAX_VALUE}) {
            bad(() -> call.applyAsLong(number));
        }
    }

    /** As many there are; what is less than 0 or no less than many is not there. */
    private static void onlyThere(int many, IntToLongFunction call) {
        for (int number = 0; number < many; number++) {
            int n = number;
            is(answer(() -> call.applyAsLong(n)) == NSE, false);
        }
        for (int number : new int[] {-1, many, Integer.MIN_VALUE, Integer.MAX_VALUE}) {
            missing(() -> call.applyAsLong(number));
        }
    }

    private static int feed(DonkeyLight x, String text) {
        byte[] bytes = text.getBytes(StandardCharsets.ISO_8859_1);
        for (int i = 0; i < bytes.length; i += 20) {
            int[] n = new int[5];
            for (int j = 0; j < 20 && i + j < bytes.length; j++) {
                n[j / 4] |= (bytes[i + j] & 255) << (24 - 8 * (j % 4));
            }
            x.feed(n[0], n[1], n[2], n[3], n[4]);
        }
        return bytes.length;
    }

    private static int coast(DonkeyLight x, String text) {
        return x.coast(feed(x, text));
    }

    private static int law(DonkeyLight x, String text) {
        return x.law(feed(x, text));
    }

    private static int work(DonkeyLight x, String text) {
        return x.work(feed(x, text));
    }

    private static int log(DonkeyLight x, String text) {
        return x.log(feed(x, text));
    }

    private static DonkeyLight at(String coast) {
        DonkeyLight x = new DonkeyLight();
        is(coast(x, coast) >= 0, true);
        return x;
    }

    private static DonkeyLight at(String coast, String law) {
        DonkeyLight x = at(coast);
        is(law(x, law), 1);
        return x;
    }

    private static void coastFault(String text, int kind, int place) {
        DonkeyLight x = new DonkeyLight();
        is(coast(x, text), kind - 10);
        is(x.fault(), place);
    }

    private static void lawFault(String text, int kind, int place) {
        DonkeyLight x = new DonkeyLight();
        is(law(x, text), kind - 10);
        is(x.fault(), place);
    }

    private static void workFault(String text, int kind, int place) {
        DonkeyLight x = at(SHORE);
        is(work(x, text), kind - 10);
        is(x.fault(), place);
    }

    private static void logFault(String text, int kind, int place) {
        DonkeyLight x = new DonkeyLight();
        is(log(x, text), kind - 10);
        is(x.fault(), place);
    }

    /** A law that is above 0 by just one, and one that is not above it: so much the expression is worth. */
    private static void worth(String expression, int value) {
        DonkeyLight x = at("ship 1 2 8 9;");
        String less = value >= 0 ? " - " + value : " + " + -value;
        is(law(x, "(" + expression + ")" + less), 1);
        is(x.would(0, 3, 4, 5, 6, 7, 1), false);
        is(law(x, "(" + expression + ")" + less + " + 1"), 1);
        is(x.would(0, 3, 4, 5, 6, 7, 1), true);
    }

    private static void toldFrom(DonkeyLight x, int first, int... wants) {
        for (int i = 0; i < wants.length; i++) {
            is(x.told(first + i), wants[i]);
        }
    }

    /** All that WORK changes, but for told(12). */
    private static String state(DonkeyLight x) {
        StringBuilder b = new StringBuilder();
        for (int what = 0; what < 12; what++) {
            b.append(x.told(what)).append(' ');
        }
        for (int cell = 0; cell < x.told(0); cell++) {
            b.append(" c").append(x.cell(cell, 0)).append(x.cell(cell, 1)).append(x.cell(cell, 2)).append(x.cell(cell, 3));
        }
        for (int light = 0; light < x.told(1); light++) {
            b.append(" l").append(x.light(light, 0)).append(x.light(light, 1)).append(x.light(light, 2));
        }
        for (int donkey = 0; donkey < x.told(2); donkey++) {
            b.append(" d").append(x.donkey(donkey, 0)).append(x.donkey(donkey, 1));
        }
        for (int ship = 0; ship < x.told(3); ship++) {
            for (int what = 0; what < 6; what++) {
                b.append(what == 0 ? " s" : ".").append(x.ship(ship, what));
            }
        }
        return b.toString();
    }

    /** All that can be asked of what texts, work and refusals leave. */
    private static String whole(DonkeyLight x) {
        StringBuilder b = new StringBuilder(state(x));
        b.append(" r").append(x.told(12)).append(" f").append(x.fault());
        b.append(" i").append(x.count(0)).append(" t").append(x.count(1)).append(" w").append(x.count(2));
        b.append(" n").append(x.status(0)).append(" a").append(x.status(1));
        b.append(" fits").append(x.fits(0)).append('.').append(x.fits(1)).append(" safe").append(x.safe());
        b.append(" code").append(x.code(8, 0)).append('.').append(x.shortest()).append(" share");
        for (int door = 0; door < x.told(4); door++) {
            b.append(x.share(door, 999)).append('.');
        }
        return b.toString();
    }

    /** All that can be asked of a coast, its nights, law and log. */
    private static String answers(DonkeyLight x) {
        StringBuilder b = new StringBuilder();
        for (int ship = 0; ship < x.told(3); ship++) {
            b.append(" s").append(x.blind(ship));
            for (int what = 0; what < 5; what++) {
                b.append('.').append(x.tried(ship, what));
            }
        }
        for (int what = 0; what < 2; what++) {
            b.append(" p").append(x.put((1 << x.told(3)) - 1, what)).append(" s").append(x.save(what));
            b.append(" f").append(x.fits(what)).append(" l").append(x.look(what)).append(" c").append(x.code(8, what));
            b.append(" r").append(x.carriers(what)).append(" e").append(x.reefs(what)).append(" b").append(x.brightest(what));
            b.append(" w").append(x.wrecks((1 << x.told(3)) - 1, what)).append(" n").append(x.winter(5, 96, 8, what));
            b.append(" m").append(x.span(5, 20, 96, 8, what));
        }
        b.append(" s").append(x.save(2)).append(" r").append(x.carriers(2)).append(" e").append(x.reefs(2));
        for (int cell = 0; cell < x.told(0); cell++) {
            b.append(" d").append(x.drawn(cell)).append('.').append(x.seen(cell, 0)).append('.').append(x.seen(cell, 99));
        }
        for (int light = 0; light < x.told(1); light++) {
            b.append(" l").append(x.flash(light, 99));
        }
        return b.toString();
    }

    private static String times(int n, String text) {
        return text.repeat(n);
    }

    /** DRAW as the document tells it, in numbers that do not wrap by themselves. */
    private static final class Draw {
        private long seed;

        Draw(int seed) {
            this.seed = seed & 0xffffffffL;
        }

        int by(int many) {
            seed = (seed * 1103515245L + 12345L) % (1L << 32);
            return (int) (seed / 65536 % 32768 % many);
        }
    }

    // ------------------------------------------------------------ what it is

    private static void whatItIs() {
        sentence("An object is used for at most 512 calls after it has been made", () -> {
            DonkeyLight x = new DonkeyLight();
            for (int i = 0; i < 127; i++) {
                x.feed(0x666f673b, 0x666f673b, 0x20202020, 0x20202020, 0x20202020);
                is(x.work(20), 1);
                is(x.told(12), 1);
                is(x.undo(), 0);
            }
            x.feed(0x666f673b, 0x20202020, 0x20202020, 0x20202020, 0x20202020);
            is(x.work(20), 1);
            is(x.told(6), 1);
            is(x.undo(), 0);
        });
        sentence("public static final int NONE = -1;", () -> is(DonkeyLight.NONE, -1));
        sentence("public int feed(int a, int b, int c, int d, int e);", () -> {
            DonkeyLight x = new DonkeyLight();
            int[] edges = {Integer.MIN_VALUE, -1, 0, 1, Integer.MAX_VALUE};
            for (int i = 0; i < 5; i++) {
                is(x.feed(edges[i], edges[(i + 1) % 5], edges[(i + 2) % 5], edges[(i + 3) % 5], edges[(i + 4) % 5]), 20 * i + 20);
            }
        });
    }

    // ------------------------------------------------------------ terms: a coast

    private static void coastText() {
        sentence("A COAST is a text of up to 600 bytes", () -> {
            DonkeyLight x = new DonkeyLight();
            is(feed(x, times(593, " ") + "cell 7;"), 600);
            is(x.coast(600), 0);
            is(x.cell(0, 0), 7);
        });
        sentence("{ CLAUSE \";\" }", () -> {
            is(new DonkeyLight().coast(0), 0);
            coastFault("cell 1", 1, 6);
            coastFault(";", 1, 0);
            coastFault("cell 1;;", 1, 7);
        });
        sentence(", at most 60.", () -> {
            DonkeyLight x = at(times(59, "sight 1;") + "cell 1;");
            is(x.told(0), 1);
            coastFault(times(60, "sight 1;") + "cell 1;", 3, 480);
        });
        sentence("CELLS, numbered along the coast from 0 on, 12 at most", () -> {
            DonkeyLight x = at("cell 9;cell 0;cell 1;cell 2;cell 3;cell 4;cell 5;cell 6;cell 7;cell 8;cell 9;cell 1;");
            is(x.told(0), 12);
            is(x.cell(0, 0), 9);
            for (int cell = 1; cell < 11; cell++) {
                is(x.cell(cell, 0), cell - 1);
            }
            is(x.cell(11, 0), 1);
            coastFault(times(13, "cell 1;"), 3, 84);
        });
        sentence("\"light\" X P (LIGHTS likewise, 6", () -> {
            DonkeyLight x = at("cell 0;" + times(5, "light 0 1;") + "light 0 9;");
            is(x.told(1), 6);
            is(x.light(0, 1), 1);
            is(x.light(5, 1), 9);
            coastFault("cell 0;" + times(7, "light 0 1;"), 3, 67);
        });
        sentence("\"donkey\" X P (DONKEYS likewise, 3)", () -> {
            DonkeyLight x = at("cell 0;donkey 0 1;donkey 0 2;donkey 0 3;");
            is(x.told(2), 3);
            is(x.donkey(0, 1), 1);
            is(x.donkey(2, 1), 3);
            coastFault("cell 0;" + times(4, "donkey 0 1;"), 3, 40);
        });
        sentence("\"ship\" C W T D (SHIPS likewise, 6", () -> {
            DonkeyLight x = new DonkeyLight();
            is(coast(x, times(5, "ship 1 1 1 1;") + "ship 2 3 4 5;"), 6);
            is(x.ship(0, 0), 1);
            is(x.ship(5, 0), 2);
            coastFault(times(7, "ship 1 1 1 1;"), 3, 78);
        });
        sentence("\"door\" N (DOORS likewise, 6", () -> {
            DonkeyLight x = at(times(5, "door 1;") + "door 5;");
            is(x.told(4), 6);
            is(x.share(0, 10), 1);
            is(x.share(5, 10), 5);
            coastFault(times(7, "door 1;"), 3, 42);
        });
    }

    private static void coastNumbers() {
        sentence("REEF R, 0 to 9", () -> {
            DonkeyLight x = at("cell 0;cell 9;");
            is(x.cell(0, 0), 0);
            is(x.cell(1, 0), 9);
            coastFault("cell 10;", 2, 5);
            coastFault("cell -1;", 1, 5);
        });
        sentence("0: none)", () -> {
            DonkeyLight x = at("cell 0;ship 1 1 1 9;", "1");
            is(x.tried(0, 0), -1);
            is(x.drawn(0), 0);
            is(x.reefs(0), 0);
        });
        sentence("at CELL X, told ahead", () -> {
            DonkeyLight x = at("cell 0;cell 0;light 1 1;light 0 1;");
            is(x.light(0, 0), 1);
            is(x.light(1, 0), 0);
            coastFault("light 0 1;cell 0;", 2, 6);
            coastFault("cell 0;light 1 1;cell 0;", 2, 13);
            coastFault("donkey 0 1;cell 0;", 2, 7);
            coastFault("cell 0;donkey 1 1;cell 0;", 2, 14);
        });
        sentence("flashes each P MINUTES, 1 to 9", () -> {
            DonkeyLight x = at("cell 0;light 0 1;light 0 9;donkey 0 1;donkey 0 9;");
            is(x.light(0, 1), 1);
            is(x.light(1, 1), 9);
            is(x.donkey(0, 1), 1);
            is(x.donkey(1, 1), 9);
            coastFault("cell 0;light 0 0;", 2, 15);
            coastFault("cell 0;light 0 10;", 2, 15);
            coastFault("cell 0;donkey 0 0;", 2, 16);
            coastFault("cell 0;donkey 0 10;", 2, 16);
        });
        sentence("CARGO C, 0 to 40", () -> {
            DonkeyLight x = at("ship 0 1 1 1;ship 40 1 1 1;");
            is(x.ship(0, 0), 0);
            is(x.ship(1, 0), 40);
            coastFault("ship 41 1 1 1;", 2, 5);
        });
        sentence("CREW W, 0 to 9", () -> {
            DonkeyLight x = at("ship 1 0 1 1;ship 1 9 1 1;");
            is(x.ship(0, 1), 0);
            is(x.ship(1, 1), 9);
            coastFault("ship 1 10 1 1;", 2, 7);
        });
        sentence("TRUST T, 0 to 9", () -> {
            DonkeyLight x = at("ship 1 1 0 1;ship 1 1 9 1;");
            is(x.ship(0, 2), 0);
            is(x.ship(1, 2), 9);
            coastFault("ship 1 1 10 1;", 2, 9);
        });
        sentence("DRAUGHT D, 0 to 9", () -> {
            DonkeyLight x = at("ship 1 1 1 0;ship 1 1 1 9;");
            is(x.ship(0, 3), 0);
            is(x.ship(1, 3), 9);
            coastFault("ship 1 1 1 10;", 2, 11);
        });
        sentence("N heads, 1 to 9", () -> {
            DonkeyLight x = at("door 1;door 9;");
            is(x.share(0, 10), 1);
            is(x.share(1, 10), 9);
            coastFault("door 0;", 2, 5);
            coastFault("door 10;", 2, 5);
        });
        sentence("\"sight\" K (0 to 5;", () -> {
            DonkeyLight none = at(times(7, "cell 0;") + "light 0 1;sight 0;");
            is(none.seen(0, 0), 1);
            is(none.seen(1, 0), 0);
            DonkeyLight five = at(times(7, "cell 0;") + "light 0 1;sight 5;");
            is(five.seen(5, 0), 1);
            is(five.seen(6, 0), 0);
            coastFault("sight 6;", 2, 6);
        });
        sentence("2 without;", () -> {
            DonkeyLight x = at(times(7, "cell 0;") + "light 0 1;");
            is(x.seen(2, 0), 1);
            is(x.seen(3, 0), 0);
            is(coast(x, "cell 0;light 0 1;sight 5;"), 0);
            is(coast(x, times(7, "cell 0;") + "light 0 1;"), 0);
            is(x.seen(2, 0), 1);
            is(x.seen(3, 0), 0);
        });
        sentence("the last counts)", () -> {
            DonkeyLight x = at("sight 5;" + times(7, "cell 0;") + "sight 0;light 0 1;sight 1;");
            is(x.seen(1, 0), 1);
            is(x.seen(2, 0), 0);
        });
    }

    // ------------------------------------------------------------ terms: a law

    private static void lawText() {
        sentence("A LAW is a text of up to 150 bytes", () -> {
            DonkeyLight x = at("ship 1 1 1 1;");
            String longest = "0-72" + times(73, "+1");
            is(feed(x, longest), 150);
            is(x.law(150), 1);
            is(x.would(0, 0, 0, 0, 0, 0, 0), true);
        });
        sentence("E, at the end nothing more", () -> {
            lawFault("", 1, 0);
            lawFault("1 1", 1, 2);
            lawFault("1;", 1, 1);
            lawFault("(1))", 1, 3);
            lawFault("1 seen", 1, 2);
            lawFault("1,1", 1, 1);
            lawFault("1 ]", 1, 2);
        });
        sentence("without: seen - 1.", () -> {
            DonkeyLight x = at("ship 1 1 1 1;");
            is(x.would(0, 0, 20, 11, 11, 500, 1), false);
            is(x.would(0, 1, 20, 11, 11, 500, 1), false);
            is(x.would(0, 2, 0, 0, 0, 0, 0), true);
        });
        sentence("A SHIP steers IN, if it is above 0.", () -> {
            is(at("ship 1 1 1 1;", "0").would(0, 9, 9, 9, 9, 9, 1), false);
            is(at("ship 1 1 1 1;", "1").would(0, 0, 0, 0, 0, 0, 0), true);
            is(at("ship 1 1 1 1;", "0 - 1").would(0, 9, 9, 9, 9, 9, 1), false);
        });
        sentence("T { + or - T }", () -> {
            worth("7", 7);
            worth("7 - 2 - 3 + 1", 3);
            lawFault("1 +", 1, 3);
            lawFault("- 1", 1, 0);
            lawFault("1 - - 1", 1, 4);
        });
        sentence("U { * or / or % U }", () -> {
            worth("100 / 7 * 7 % 30 / 2", 4);
            worth("1 + 2 * 3 - 9 % 5", 3);
            lawFault("1 *", 1, 3);
            lawFault("* 1", 1, 0);
        });
        sentence("N (0 to 999)", () -> {
            worth("0", 0);
            worth("999", 999);
            lawFault("1000", 2, 0);
            lawFault("1 + 1000", 2, 4);
        });
        sentence("\"least\" \"[\" E \",\" E \"]\", \"most\" \"[\" E \",\" E \"]\"", () -> {
            worth("least[2,3]", 2);
            worth("least[3,2]", 2);
            worth("least[3,3]", 3);
            worth("most[2,3]", 3);
            worth("most[3,2]", 3);
            worth("most[0 - 2,0 - 3]", -2);
            lawFault("least[1]", 1, 7);
            lawFault("most[1,2,3]", 1, 8);
            lawFault("least", 1, 5);
            lawFault("most(1,2)", 1, 4);
        });
        sentence("or \"(\" E \")\"", () -> {
            worth("(7)", 7);
            worth("2 * (3 + 4)", 14);
            lawFault("()", 1, 1);
            lawFault("(1", 1, 2);
            lawFault("(1]", 1, 2);
        });
    }

    private static void lawValues() {
        sentence("Values are whole numbers of 32 bits that wrap", () -> {
            worth("256*256*256*128 - 1 + 1 + 256*256*256*128", 0);
            worth("256*256*256*256", 0);
            worth("(256*256*256*128) / (0-1) / 256 / 256 / 256", -128);
            DonkeyLight x = at("ship 1 1 1 1;", "256*256*256*128");
            is(x.would(0, 0, 0, 0, 0, 0, 0), false);
            law(x, "256*256*256*128 - 1");
            is(x.would(0, 0, 0, 0, 0, 0, 0), true);
            law(x, "256*256*256*127 + 256*256*255 + 256*255 + 255");
            is(x.would(0, 0, 0, 0, 0, 0, 0), true);
            law(x, "256*256*256*127 + 256*256*255 + 256*255 + 256");
            is(x.would(0, 0, 0, 0, 0, 0, 0), false);
        });
        sentence("/ cuts", () -> {
            worth("7 / 2", 3);
            worth("(0 - 7) / 2", -3);
            worth("7 / (0 - 2)", -3);
            worth("(0 - 7) / (0 - 2)", 3);
            worth("1 / 2", 0);
        });
        sentence("% leaves (with the sign of what is divided)", () -> {
            worth("7 % 3", 1);
            worth("(0 - 7) % 3", -1);
            worth("7 % (0 - 3)", 1);
            worth("(0 - 7) % (0 - 3)", -1);
            worth("6 % 3", 0);
            worth("(256*256*256*128) % (0-1)", 0);
        });
        sentence("by 0 both are 0", () -> {
            worth("7 / 0", 0);
            worth("7 % 0", 0);
            worth("0 / 0", 0);
            worth("(0 - 7) % (3 - 3) + 5 / (2 - 2)", 0);
        });
        sentence("\"minute\", \"cell\", \"trust\", \"draught\", \"crew\", \"night\", \"fog\" (1 or 0)", () -> {
            worth("minute", 5);
            worth("cell", 6);
            worth("trust", 8);
            worth("draught", 9);
            worth("crew", 2);
            worth("night", 7);
            worth("fog", 1);
            DonkeyLight x = at("ship 1 1 1 1;", "1 - fog");
            is(x.would(0, 0, 0, 0, 0, 0, 0), true);
            is(x.would(0, 0, 0, 0, 0, 0, 1), false);
        });
    }

    /** Six cells without reefs: a ship goes on to the last, and steers in where its dark is just so much. */
    private static void darkIs(DonkeyLight x, int dark, int cells) {
        law(x, "1 - (dark - " + dark + ") * (dark - " + dark + ")");
        is(x.tried(0, 1), cells);
    }

    private static void lawDarkness() {
        String six = times(6, "cell 0;") + "ship 1 1 1 1;sight 0;light 2 2;";
        sentence("\"seen\" (how many flashes it sees in this MINUTE)", () -> {
            DonkeyLight x = at(six + "light 2 2;light 3 2;", "2 - seen");
            is(x.tried(0, 1), 0b111011);
            law(x, "seen - 1");
            is(x.tried(0, 1), 0b000100);
        });
        sentence("\"dark\" (0, if it sees one", () -> darkIs(at(six), 0, 0b000101));
        sentence("else MINUTES since the latest in which it saw one in this passing", () -> {
            DonkeyLight x = at(six);
            darkIs(x, 2, 0b010000);
            darkIs(x, 3, 0b100000);
            DonkeyLight y = at(six + "light 4 4;");
            darkIs(y, 1, 0b101010);
            darkIs(y, 3, 0);
            is(work(y, "pass 0;dowse 0;dowse 1;"), 3);
            darkIs(y, 5, 0b100000);
        });
        sentence("without such a one its MINUTE", () -> {
            DonkeyLight x = at(times(12, "cell 0;") + "ship 1 1 1 1;");
            darkIs(x, 0, 1);
            darkIs(x, 1, 2);
            darkIs(x, 11, 1 << 11);
        });
    }

    // ------------------------------------------------------------ terms: work and log

    private static void workText() {
        sentence("WORK is a text of up to 150 bytes", () -> {
            DonkeyLight x = at(SHORE);
            is(feed(x, times(146, " ") + "fog;"), 150);
            is(x.work(150), 1);
            is(x.told(6), 1);
        });
        sentence("{ STEP \";\" }.", () -> {
            DonkeyLight x = at(SHORE);
            is(work(x, ""), 0);
            is(x.count(2), 1);
            workFault("fog", 1, 3);
            workFault(";", 1, 0);
            workFault("fog;;", 1, 4);
            workFault("fog;]", 1, 4);
        });
        sentence("\"[\" { STEP \";\" } \"]\"", () -> {
            DonkeyLight x = at(SHORE);
            is(work(x, "again 30[];"), 0);
            workFault("again 1[fog];", 1, 11);
            workFault("again 1[fog;", 1, 12);
            workFault("again 1[;];", 1, 8);
            workFault("again 1 fog;", 1, 8);
            workFault("again 1[]", 1, 9);
        });
        sentence("(N 0 to 30)", () -> {
            DonkeyLight x = at(SHORE);
            is(work(x, "again 0[night;];"), 0);
            is(x.told(5), 0);
            is(work(x, "again 30[night;];"), 30);
            is(x.told(5), 30);
            is(work(x, "again 1[night;];"), 1);
            workFault("again 31[night;];", 2, 6);
        });
        sentence("\"dowse\" L, \"light\" L", () -> {
            is(work(at(SHORE), "dowse 0;dowse 1;light 1;light 0;"), 4);
            workFault("dowse 2;", 2, 6);
            workFault("light 2;", 2, 6);
            DonkeyLight none = at("cell 1;");
            is(work(none, "dowse 0;"), -8);
            is(work(none, "light 0;"), -8);
        });
        sentence("\"lead\" D X", () -> {
            is(work(at(SHORE), "lead 1 5;lead 0 5;lead 0 0;"), 3);
            workFault("lead 2 0;", 2, 5);
            workFault("lead 0 6;", 2, 7);
            workFault("lead 0;", 1, 6);
            is(work(at("cell 1;"), "lead 0 0;"), -8);
        });
        sentence("\"pass\" S", () -> {
            is(work(at(SHORE), "pass 0;pass 2;"), 2);
            workFault("pass 3;", 2, 5);
            workFault("pass;", 1, 4);
            is(work(at("cell 1;"), "pass 0;"), -8);
        });
    }

    private static void logText() {
        String twelve = "1 1;2 0;3 0;4 0;5 0;6 0;7 0;8 0;9 0;10 0;11 0;";
        sentence("A LOG is a text of up to 100 bytes", () -> {
            DonkeyLight x = new DonkeyLight();
            is(feed(x, times(95, " ") + "59 1;"), 100);
            is(x.log(100), 1);
            is(x.told(11), 1);
        });
        sentence("{ M B \";\" }", () -> {
            is(new DonkeyLight().log(0), 0);
            logFault("1 1", 1, 3);
            logFault("1;", 1, 1);
            logFault("1 1 1;", 1, 4);
            logFault("11;", 1, 2);
            logFault(";", 1, 0);
        });
        sentence("12 lines at most", () -> {
            is(log(new DonkeyLight(), twelve + "12 0;"), 12);
            logFault(twelve + "12 0;13 0;", 3, 51);
        });
        sentence("no M twice", () -> {
            logFault("1 1;1 1;", 2, 4);
            logFault("1 1;2 0;  001 0;", 2, 10);
            logFault("0 1;59 0;59 1;", 2, 9);
            DonkeyLight x = new DonkeyLight();
            is(log(x, "1 1;"), 1);
            is(log(x, "1 1;"), 1);
        });
        sentence("in MINUTE M (0 to 59)", () -> {
            DonkeyLight x = new DonkeyLight();
            is(log(x, "0 1;59 1;"), 2);
            is(x.fits(0), 1);
            logFault("60 1;", 2, 0);
        });
        sentence("a flash was seen (B 1), or none (0)", () -> {
            DonkeyLight x = new DonkeyLight();
            is(log(x, "0 1;"), 1);
            is(x.fits(0), 9);
            is(log(x, "0 0;"), 1);
            is(x.fits(0), 36);
            logFault("0 2;", 2, 2);
        });
    }

    // ------------------------------------------------------------ terms: signs and faults

    private static void signsOfTexts() {
        sentence("Numbers: digits, as many as stand there", () -> {
            DonkeyLight x = at("cell " + times(40, "0") + "7;");
            is(x.cell(0, 0), 7);
            is(law(x, "00000000000000000999 - 998"), 1);
            coastFault("cell 4294967297;", 2, 5);
            coastFault("cell 18446744073709551617;", 2, 5);
            coastFault("cell " + times(50, "9") + ";", 2, 5);
            coastFault("cell 1 1;", 1, 7);
            logFault("1 0000000000000000000002;", 2, 2);
        });
        sentence("WORDS: small letters, as many as stand there", () -> {
            DonkeyLight x = at("cell1;ship1 1 1 1;");
            is(x.cell(0, 0), 1);
            coastFault("cells 1;", 1, 0);
            coastFault("cel 1;", 1, 0);
            coastFault("ce ll 1;", 1, 0);
            coastFault("Cell 1;", 1, 0);
            coastFault("cellcell 1;", 1, 0);
            coastFault("cella 1;", 1, 0);
            coastFault("cellz 1;", 1, 0);
            lawFault("seenn", 1, 0);
            lawFault("leas[1,2]", 1, 0);
            lawFault("seen1", 1, 4);
            lawFault("1seen", 1, 1);
            workFault("fogs;", 1, 0);
            workFault("nigh;", 1, 0);
        });
        sentence("blanks (32) may stand ahead of all these, and at the end", () -> {
            DonkeyLight x = at("   cell   1   ;   cell   2   ;   ");
            is(x.told(0), 2);
            is(coast(x, "     "), 0);
            is(coast(x, "ship 1  1   1    1;cell 2;donkey 0 1;"), 1);
            is(law(x, "  ( seen + least [ 1 , 2 ] ) % 3  "), 1);
            is(work(x, "  again  2  [  fog  ;  night  ;  ]  ;  "), 4);
            is(log(x, "  1  1  ;  2  0  ;  "), 2);
            coastFault("cell\t1;", 1, 4);
            coastFault("cell 1;\n", 1, 7);
            coastFault("cell 1;\0", 1, 7);
            coastFault("cell\u00a01;", 1, 4);
        });
        sentence("(at the length, if the text ends too early)", () -> {
            coastFault("cell", 1, 4);
            coastFault("cell  ", 1, 6);
            coastFault("cell 1", 1, 6);
            coastFault("cell 1;ship 1 1  ", 1, 17);
            lawFault("", 1, 0);
            lawFault("   ", 1, 3);
            lawFault("1 +  ", 1, 5);
            lawFault("least[1,2", 1, 9);
            workFault("again 1[  ", 1, 10);
            workFault("fog", 1, 3);
            logFault("1", 1, 1);
            logFault("1 1 ", 1, 4);
        });
    }

    private static void faultsFirst() {
        sentence("FAULTS, the first from the left, at its first byte", () -> {
            coastFault("  cell  99;cells 1;", 2, 8);
            coastFault("cell 1;  cells 99;", 1, 9);
            coastFault("ship 41 99 99 99;", 2, 5);
            coastFault("cell 99", 2, 5);
            lawFault("  1000 + ?", 2, 2);
            lawFault("? + 1000", 1, 0);
            workFault("fog;pass 99;fogs;", 2, 9);
            logFault("1 1;60 2;", 2, 4);
            logFault("1 9", 2, 2);
        });
        sentence("1 what can't stand there", () -> {
            coastFault("?", 1, 0);
            coastFault("cell ?;", 1, 5);
            coastFault("cell 1?;", 1, 6);
            coastFault("cell light;", 1, 5);
            coastFault("cell +1;", 1, 5);
            lawFault("cells", 1, 0);
            lawFault("light", 1, 0);
            workFault("cell 1;", 1, 0);
            logFault("cell 1;", 1, 0);
        });
        sentence("2 a number that is none such (an M twice)", () -> {
            coastFault("door 0;", 2, 5);
            lawFault("1 + 1000", 2, 4);
            workFault("pass 3;", 2, 5);
            logFault("0 1;60 0;", 2, 4);
            logFault("0 1;1 2;", 2, 6);
            logFault("0 1; 0 0;", 2, 5);
        });
        sentence("of one the least", () -> {
            String sixty = times(60, "sight 1;");
            coastFault(sixty + "cells 1;", 1, 480);
            coastFault(sixty + ";", 1, 480);
            coastFault(sixty + "cell 99;", 3, 480);
            String twelve = "1 1;2 0;3 0;4 0;5 0;6 0;7 0;8 0;9 0;10 0;11 0;12 0;";
            logFault(twelve + "12 0;", 2, 51);
            logFault(twelve + "60 0;", 2, 51);
            logFault(twelve + "x 0;", 1, 51);
            logFault(twelve + "13 2;", 3, 51);
        });
    }

    private static void faultsTooMany() {
        sentence("3 a CLAUSE, CELL, LIGHT, DONKEY, SHIP or DOOR (at its word)", () -> {
            coastFault(times(60, "sight 1;") + "  sight 1;", 3, 482);
            coastFault(times(12, "cell 1;") + "  cell 1;", 3, 86);
            coastFault("cell 1;" + times(6, "light 0 1;") + " light 0 1;", 3, 68);
            coastFault("cell 1;" + times(3, "donkey 0 1;") + " donkey 0 1;", 3, 41);
            coastFault(times(6, "ship 1 1 1 1;") + " ship 1 1 1 1;", 3, 79);
            coastFault(times(6, "door 1;") + " door 1;", 3, 43);
            coastFault(times(6, "door 1;") + " door", 3, 43);
        });
        sentence("a line (at its M) too many", () -> {
            String twelve = "1 1;2 0;3 0;4 0;5 0;6 0;7 0;8 0;9 0;10 0;11 0;12 0;";
            logFault(twelve + "  13 0;", 3, 53);
            logFault(twelve + "13", 3, 51);
            is(log(new DonkeyLight(), twelve + "  "), 12);
        });
        sentence("a 7th of ( least most again that is open at one time", () -> {
            DonkeyLight x = at("ship 1 1 1 1;");
            is(law(x, "((((((1)))))) + ((((((1))))))"), 1);
            is(law(x, "least[1,least[1,least[1,least[1,least[1,least[1,2]]]]]]"), 1);
            lawFault("(((((((1)))))))", 3, 6);
            lawFault("((((((least[1,2]))))))", 3, 6);
            lawFault("((((((most[1,2]))))))", 3, 6);
            lawFault("least[1,most[1,(least[(most[0, (1)],1)]", 3, 31);
            lawFault("(((((most[1,  most", 3, 14);
            is(work(x, times(6, "again 1[") + "fog;" + times(6, "];")), 1);
            is(work(x, times(5, "again 1[") + times(3, "again 1[];") + times(5, "];")), 0);
            workFault(times(6, "again 1[") + " again 1[", 3, 49);
            workFault(times(7, "again"), 1, 0);
        });
    }

    // ------------------------------------------------------------ nights

    private static void atFirst() {
        sentence("It is NIGHT 0 at first, without fog; LIGHTS burn, DONKEYS stand in their CELLS, no SHIP has passed.", () -> {
            DonkeyLight x = at(SHORE);
            toldFrom(x, 5, 0, 0, 0, 0, 0, 0, 0, 0);
            is(x.light(0, 2), 1);
            is(x.light(1, 2), 1);
            is(x.donkey(0, 0), 0);
            is(x.donkey(1, 0), 2);
            for (int ship = 0; ship < 3; ship++) {
                is(x.ship(ship, 4), 0);
                is(x.ship(ship, 5), 0);
            }
            is(work(x, "night;fog;dowse 0;lead 0 5;pass 0;"), 5);
            is(coast(x, SHORE), 3);
            same(state(x), state(at(SHORE)));
        });
        sentence("STEPS are done in order", () -> {
            DonkeyLight x = at(SHORE);
            is(work(x, "lead 0 1;lead 0 2;dowse 0;light 0;fog;night;"), 6);
            is(x.donkey(0, 0), 2);
            is(x.light(0, 2), 1);
            is(x.told(6), 0);
        });
        sentence("one that can't be done is REFUSED, and changes nothing", () -> {
            DonkeyLight x = at(SHORE);
            is(work(x, "fog;dowse 0;lead 0 3;pass 0;"), 4);
            String before = state(x);
            is(work(x, "fog;dowse 0;light 1;lead 0 3;lead 1 2;pass 0;"), 0);
            is(x.told(12), 6);
            same(state(x), before);
        });
    }

    private static void stepsBegun() {
        sentence("200 STEPS at most are begun by one WORK", () -> {
            DonkeyLight x = at(SHORE);
            is(work(x, "again 28[again 5[night;];];again 29[night;];fog;"), 170);
            is(x.told(6), 1);
            is(x.undo(), 0);
            is(work(x, "again 28[again 5[night;];];again 30[night;];fog;"), 170);
            is(x.told(6), 0);
            is(x.told(12), 0);
        });
        sentence("(an again, too, each time it is come to; REFUSED ones, too)", () -> {
            DonkeyLight x = at(SHORE);
            is(work(x, "again 30[again 30[again 0[];];];"), 0);
            is(work(x, "again 30[again 0[];again 0[];again 0[];again 0[];again 0[];again 0[];];again 18[];fog;"), 1);
            is(work(x, "again 30[again 0[];again 0[];again 0[];again 0[];again 0[];again 0[];];" + times(18, "fog;")), 0);
            is(x.told(12), 18);
            is(x.undo(), 2);
            is(work(x, "again 30[again 0[];again 0[];again 0[];again 0[];again 0[];again 0[];];" + times(19, "fog;")), 0);
            is(x.told(12), 19);
            is(work(x, "again 30[light 0;light 0;light 0;light 0;light 0;light 0;];again 19[night;];night;"), 18);
            is(x.told(12), 180);
        });
        sentence("what would come behind is left out", () -> {
            DonkeyLight x = at(SHORE);
            is(work(x, "again 30[light 0;light 0;light 0;light 0;light 0;light 0;light 0;];fog;pass 0;"), 0);
            is(x.told(12), 199);
            is(x.told(6), 0);
            is(x.ship(0, 4), 0);
            is(work(x, "fog;"), 1);
        });
    }

    private static void stepsRefused() {
        sentence("dowse: LIGHT L is out; light: it burns (REFUSED, if it is so).", () -> {
            DonkeyLight x = at(SHORE);
            is(work(x, "light 0;dowse 0;dowse 0;light 0;dowse 0;"), 3);
            is(x.told(12), 2);
            is(x.light(0, 2), 0);
            is(x.light(1, 2), 1);
        });
        sentence("lead: DONKEY D stands in CELL X (REFUSED, if it does).", () -> {
            DonkeyLight x = at(SHORE);
            is(work(x, "lead 0 0;lead 0 5;lead 0 5;lead 0 0;"), 2);
            is(x.told(12), 2);
            is(work(x, "lead 0 2;"), 1);
            is(x.cell(2, 2), 2);
        });
        sentence("fog: there is fog in this NIGHT (REFUSED, if there is).", () -> {
            DonkeyLight x = at(SHORE);
            is(work(x, "fog;fog;night;fog;"), 3);
            is(x.told(12), 1);
            is(x.told(6), 1);
        });
        sentence("night: it is one more (REFUSED from 500 on), without fog; all SHIPS may pass again.", () -> {
            DonkeyLight x = at(SHORE);
            is(work(x, "fog;pass 0;pass 1;night;"), 4);
            toldFrom(x, 5, 1, 0);
            is(work(x, "pass 0;pass 1;"), 2);
            untilNight(x, 499);
            is(work(x, "night;"), 1);
            is(x.told(5), 500);
            is(work(x, "fog;pass 0;night;"), 2);
            is(x.told(12), 1);
            toldFrom(x, 5, 500, 1);
            is(x.ship(0, 4), 1);
        });
        sentence("pass: SHIP S passes (REFUSED, if it passed in this NIGHT, or there are no CELLS).", () -> {
            DonkeyLight x = at(SHORE);
            is(work(x, "pass 0;pass 0;pass 2;"), 2);
            is(x.told(12), 1);
            is(x.ship(0, 5), 1);
            is(work(x, "night;pass 0;"), 2);
            DonkeyLight none = at("ship 1 1 1 1;");
            is(work(none, "pass 0;"), 0);
            is(none.told(12), 1);
            is(none.ship(0, 4), 0);
        });
    }

    /** From a night before 200 on; by as few works as may be. */
    private static void untilNight(DonkeyLight x, int night) {
        for (int i = 0; i < 20 && x.told(5) < night; i++) {
            int by = Math.min(night - x.told(5), 180);
            String text = "again " + by / 6 + "[night;night;night;night;night;night;];" + times(by % 6, "night;");
            is(work(x, text), by);
        }
        is(x.told(5), night);
    }

    // ------------------------------------------------------------ passing

    private static void passing() {
        sentence("in MINUTE m (from 0 on) it is off CELL m, to the last one", () -> {
            DonkeyLight x = at("cell 9;cell 9;cell 9;ship 1 0 0 0;", "1");
            is(x.tried(0, 0), 0);
            law(x, "cell - 1");
            is(x.tried(0, 0), 2);
            law(x, "cell - 2");
            is(x.tried(0, 0), -1);
            law(x, "1 - (minute - cell) * (minute - cell)");
            is(coast(x, times(12, "cell 0;") + "ship 1 0 0 0;"), 1);
            law(x, "1 - (minute - cell) * (minute - cell)");
            is(x.tried(0, 1), 0xfff);
        });
        sentence("A DONKEY that stands in X is in that MINUTE in CELL X and m (the last at most).", () -> {
            DonkeyLight x = at(times(4, "cell 0;") + "donkey 1 1;sight 0;");
            int[] cells = {1, 2, 3, 3, 3};
            for (int m = 0; m < 5; m++) {
                for (int cell = 0; cell < 4; cell++) {
                    is(x.seen(cell, m), cell == cells[m] ? 1 : 0);
                }
            }
            is(x.seen(3, 99), 1);
            is(x.donkey(0, 0), 1);
        });
        sentence("A light or donkey flashes in MINUTES of which nothing is left by its P.", () -> {
            DonkeyLight x = at("cell 0;light 0 9;");
            DonkeyLight y = at("cell 0;donkey 0 9;");
            for (int m = 0; m < 100; m++) {
                is(x.seen(0, m), m == m / 9 * 9 ? 1 : 0);
                is(y.seen(0, m), m == m / 9 * 9 ? 1 : 0);
            }
            DonkeyLight z = at("cell 0;light 0 1;donkey 0 1;");
            is(z.seen(0, 0), 2);
            is(z.seen(0, 97), 2);
        });
    }

    private static void sight() {
        sentence("flashes of LIGHTS that burn and DONKEYS", () -> {
            DonkeyLight x = at("cell 0;light 0 1;light 0 1;donkey 0 1;donkey 0 1;");
            is(x.seen(0, 0), 4);
            is(work(x, "dowse 0;dowse 1;"), 2);
            is(x.seen(0, 0), 2);
            DonkeyLight full = at("cell 0;" + times(6, "light 0 1;") + times(3, "donkey 0 1;"));
            is(full.seen(0, 0), 9);
            is(at("cell 0;").seen(0, 0), 0);
        });
        sentence("no more than K CELLS away", () -> {
            DonkeyLight x = at(times(9, "cell 0;") + "light 4 1;sight 3;");
            int[] seen = {0, 1, 1, 1, 1, 1, 1, 1, 0};
            for (int cell = 0; cell < 9; cell++) {
                is(x.seen(cell, 0), seen[cell]);
            }
            DonkeyLight y = at(times(9, "cell 0;") + "donkey 4 1;sight 0;");
            for (int cell = 0; cell < 9; cell++) {
                is(y.seen(cell, 0), cell == 4 ? 1 : 0);
            }
        });
        sentence("(in fog K by 2, cut)", () -> {
            for (int k = 0; k <= 5; k++) {
                DonkeyLight x = at(times(9, "cell 0;") + "light 4 1;sight " + k + ";");
                is(work(x, "fog;"), 1);
                is(x.seen(4 - k / 2, 0), 1);
                is(x.seen(4 + k / 2, 0), 1);
                is(x.seen(4 - k / 2 - 1, 0), 0);
                is(x.seen(4 + k / 2 + 1, 0), 0);
                is(work(x, "night;"), 1);
                is(x.seen(4 + k / 2 + 1, 0), k > k / 2 ? 1 : 0);
            }
        });
    }

    private static void striking() {
        sentence("If the SHIP steers IN by the LAW, REEF there is above 0, and REEF and DRAUGHT together are 6 or more", () -> {
            DonkeyLight none = at("cell 0;ship 1 1 1 9;", "1");
            is(none.tried(0, 0), -1);
            DonkeyLight one = at("cell 1;ship 1 1 1 4;ship 1 1 1 5;", "1");
            is(one.tried(0, 0), -1);
            is(one.tried(1, 0), 0);
            DonkeyLight six = at("cell 6;cell 5;ship 1 1 1 0;", "cell");
            is(six.tried(0, 0), -1);
            law(six, "1");
            is(six.tried(0, 0), 0);
            law(six, "0");
            is(six.tried(0, 0), -1);
        });
        sentence("it has STRUCK there: its passing is over", () -> {
            DonkeyLight x = at("cell 9;cell 9;ship 7 9 1 1;", "1");
            is(x.tried(0, 1), 1);
            is(work(x, "pass 0;"), 1);
            is(x.told(7), 1);
            is(x.cell(0, 3), 1);
            is(x.cell(1, 3), 0);
            is(x.told(8), 7);
        });
        sentence("ALIVE: CREW less REEF, 0 at least.", () -> {
            DonkeyLight x = at("cell 6;ship 1 5 1 1;ship 1 6 1 1;ship 1 7 1 1;ship 1 0 1 1;ship 1 9 1 1;", "1");
            int[] alive = {0, 0, 1, 0, 3};
            for (int ship = 0; ship < 5; ship++) {
                is(x.tried(ship, 2), alive[ship]);
            }
        });
        sentence("if nobody is ALIVE, it goes to the parish; else it is held", () -> {
            DonkeyLight x = at("cell 6;ship 1 5 1 1;ship 2 6 1 1;ship 4 7 1 1;ship 8 0 1 1;ship 16 9 1 1;", "1");
            is(work(x, "pass 0;pass 1;pass 2;pass 3;pass 4;"), 5);
            toldFrom(x, 7, 5, 11, 20, 4);
        });
        sentence("Who has not STRUCK is SAFE.", () -> {
            DonkeyLight x = at("cell 5;ship 1 1 1 0;ship 1 1 1 1;", "1");
            is(x.safe(), 1);
            is(x.tried(0, 0), -1);
            is(x.tried(0, 3), 0);
            is(x.tried(1, 0), 0);
        });
    }

    // ------------------------------------------------------------ what is asked

    private static void asked() {
        sentence("Asked, nothing stays changed", () -> {
            DonkeyLight x = at(SHORE);
            is(work(x, "fog;pass 0;lead 0 1;dowse 1;dowse 1;"), 4);
            is(log(x, "1 1;"), 1);
            is(x.image(), 1);
            is(law(x, "1 +"), -9);
            x.feed(1, 2, 3, 4, 5);
            String before = whole(x);
            String asked = answers(x);
            same(whole(x), before);
            same(answers(x), asked);
        });
        sentence("a TRY of a SHIP is its PASSING as all is now, whether it passed or not", () -> {
            DonkeyLight x = at("cell 9;cell 9;ship 1 1 1 1;light 0 1;light 1 1;sight 0;", "seen");
            is(x.tried(0, 0), 0);
            is(work(x, "pass 0;dowse 0;"), 2);
            is(x.tried(0, 0), 1);
            is(x.ship(0, 4), 1);
            is(work(x, "dowse 1;night;fog;"), 3);
            is(x.tried(0, 0), -1);
            law(x, "night * fog");
            is(x.tried(0, 0), 0);
        });
    }

    private static void ways() {
        sentence("of all ways to put all DONKEYS in CELLS that by which the CARGO the parish has of TRIES of these is most", () -> {
            String coast = "cell 0;cell 0;cell 0;cell 9;light 3 1;donkey 0 3;donkey 0 1;donkey 0 1;sight 0;ship 9 0 0 0;";
            DonkeyLight x = at(coast, "minute / 3 * (5 - seen)");
            is(x.put(1, 0), 9);
            law(x, "minute / 3 * (4 - seen)");
            is(x.put(1, 0), 0);
            DonkeyLight lit = at("cell 9;donkey 0 1;light 0 1;sight 0;ship 5 0 0 0;", "seen - 1");
            is(lit.put(1, 0), 5);
            is(work(lit, "dowse 0;"), 1);
            is(lit.put(1, 0), 0);
            DonkeyLight dark = at("cell 0;cell 0;cell 0;cell 9;donkey 3 2;sight 0;ship 5 0 0 0;", "2 - dark");
            is(dark.put(1, 0), 5);
            is(dark.put(1, 1), 0);
            is(work(dark, "lead 0 0;"), 1);
            law(dark, "dark - 2");
            is(dark.put(1, 0), 5);
            is(dark.put(1, 1), 1);
        });
        sentence("of alike ways the first (DONKEY by DONKEY the least CELL)", () -> {
            DonkeyLight x = at("cell 0;cell 9;cell 0;cell 0;donkey 3 1;donkey 3 1;sight 0;ship 4 2 0 0;", "(2 - seen) * seen");
            is(x.put(1, 0), 4);
            is(x.put(1, 1), 0x10);
            law(x, "1");
            is(x.put(1, 1), 0);
            law(x, "0");
            is(x.put(1, 1), 0);
            law(x, "1 - seen");
            is(x.put(1, 1), 0x11);
            DonkeyLight last = at(times(11, "cell 0;") + "cell 9;donkey 0 1;donkey 0 1;donkey 0 1;sight 0;ship 1 0 0 0;", "1");
            is(last.put(1, 1), 0);
        });
        sentence("one LIGHT more (burning) in CELL X of P 1 to 9 by which most of all SHIPS are SAFE in TRIES", () -> {
            DonkeyLight full = at("cell 0;cell 0;cell 9;cell 0;ship 1 1 1 1;ship 1 1 1 9;" + times(6, "light 3 7;") + "sight 0;",
                    "1 - seen");
            is(full.save(0), 2);
            is(full.save(1), 2);
            is(full.save(2), 1);
            DonkeyLight nine = at(times(6, "cell 0;") + "cell 9;cell 0;cell 0;cell 9;ship 1 1 1 1;sight 5;",
                    "(7 - minute) * seen + (minute - 7) * (1 - seen)");
            is(nine.save(0), 1);
            is(nine.save(2), 9);
            DonkeyLight some = at("cell 9;ship 1 1 1 1;ship 1 1 9 1;", "trust - seen * 5");
            is(some.save(0), 1);
            DonkeyLight none = at("cell 9;cell 9;sight 1;ship 1 1 1 1;", "seen + minute - 2 * seen * minute");
            is(none.save(0), 0);
            DonkeyLight lit = at("cell 9;light 0 1;sight 0;ship 1 1 1 1;", "2 - seen");
            is(lit.save(0), 1);
            is(work(lit, "dowse 0;"), 1);
            is(lit.save(0), 0);
            DonkeyLight one = at("cell 9;cell 0;light 0 1;sight 0;ship 1 1 1 1;", "(seen - 1) * (seen - 1)");
            is(one.save(0), 1);
            is(one.save(1), 1);
            DonkeyLight dark = at("cell 0;cell 0;cell 9;sight 0;ship 1 1 1 1;", "(dark - 1) * (dark - 1)");
            is(dark.save(0), 1);
            is(dark.save(1), 1);
        });
        sentence("of alike ones the least X, then P.", () -> {
            DonkeyLight x = at("cell 0;cell 0;cell 9;cell 0;ship 1 1 1 1;sight 1;", "1 - seen");
            is(x.save(0), 1);
            is(x.save(1), 1);
            is(x.save(2), 1);
            law(x, "0");
            is(x.save(1), 0);
            is(x.save(2), 1);
            law(x, "1");
            is(x.save(0), 0);
            is(x.save(1), 0);
            is(x.save(2), 1);
        });
    }

    // ------------------------------------------------------------ flashes and rows

    private static void flashes() {
        sentence("pairs of P (1 to 9) and A (0 to P less 1)", () -> {
            DonkeyLight x = new DonkeyLight();
            is(x.fits(0), 45);
            is(x.fits(1), 10);
            is(log(x, "0 0;1 0;2 0;3 0;4 0;5 0;6 0;7 0;8 1;"), 9);
            is(x.fits(0), 1);
            is(x.fits(1), 98);
            is(log(x, "0 0;1 0;2 0;3 0;4 0;5 0;6 0;7 0;8 0;"), 9);
            is(x.fits(0), 0);
            is(log(x, "0 1;1 1;"), 2);
            is(x.fits(0), 1);
            is(x.fits(1), 10);
        });
        sentence("is so as the LOG tells in all lines", () -> {
            DonkeyLight x = new DonkeyLight();
            is(log(x, "7 1;"), 1);
            is(x.fits(0), 9);
            is(log(x, "7 1;16 1;"), 2);
            is(x.fits(0), 3);
            is(log(x, "7 1;16 1;8 0;"), 3);
            is(x.fits(0), 2);
            is(log(x, "7 1;16 1;8 0;10 0;"), 4);
            is(x.fits(0), 1);
            is(x.fits(1), 97);
        });
        sentence("the MINUTE, 0 to 59, in no line by which, whatever is seen, fewest FITS are left at the worst, of these the first", () -> {
            DonkeyLight x = new DonkeyLight();
            is(x.look(0), 0);
            is(log(x, "0 1;1 1;2 0;"), 3);
            is(x.look(0), 3);
            is(log(x, "0 1;1 1;2 0;3 0;4 0;5 0;6 0;7 0;8 0;9 0;10 0;11 0;"), 12);
            is(x.look(0), 12);
            is(x.look(1), 0);
            // P 2 to 9 with A 0 are left: 12 parts 2, 3, 4, 6 from 5, 7, 8, 9; then 4 parts 2 and 4 from 3 and 6.
            is(log(x, "0 1;1 0;"), 2);
            is(x.look(0), 12);
            is(x.look(1), 4);
            is(log(x, "0 1;1 0;12 1;"), 3);
            is(x.look(0), 4);
            is(x.look(1), 2);
            is(log(x, "0 1;1 1;"), 2);
            is(x.look(0), 2);
            is(x.look(1), 1);
        });
    }

    private static void rowsOfMinutes() {
        sentence("rows of n MINUTES, bits (the first the lowest), that no DONKEY's P makes from any MINUTE on", () -> {
            DonkeyLight nine = at("cell 0;donkey 0 9;");
            is(nine.code(8, 0), 256 - 9);
            is(nine.code(8, 1), 3);
            is(nine.code(1, 0), 0);
            DonkeyLight three = at("cell 0;donkey 0 1;donkey 0 2;donkey 0 3;");
            is(three.code(3, 0), 3);
            is(three.code(3, 1), 0);
            DonkeyLight four = at("cell 0;donkey 0 9;donkey 0 3;");
            is(four.code(4, 0), 16 - 6);
            is(four.code(4, 1), 3);
            is(new DonkeyLight().code(8, 0), 256);
        });
        sentence("the least n (1 to 8) of which there is one; NONE.", () -> {
            is(new DonkeyLight().shortest(), 1);
            is(at("cell 0;donkey 0 1;").shortest(), 1);
            is(at("cell 0;donkey 0 2;").shortest(), 2);
            is(at("cell 0;donkey 0 1;donkey 0 3;").shortest(), 3);
        });
    }

    // ------------------------------------------------------------ fractions, carriers, shares

    private static void isWink(int a, int p, int q, int l, int n, long above, long below) {
        DonkeyLight x = new DonkeyLight();
        is(x.wink(a, p, q, l, n, 0), above);
        is(x.wink(a, p, q, l, n, 1), below);
    }

    private static void fractions() {
        sentence("(0 by 1, if it can't be)", () -> {
            isWink(8, 0, 0, 1, 1, 0, 1);
            isWink(8, 16, 16, 0, 1, 0, 1);
            isWink(0, 16, 0, 1, 1, 0, 1);
            isWink(16, 0, 16, 6, 6, 0, 1);
            isWink(8, 0, 16, 1, 1, 0, 1);
            isWink(0, 5, 5, 1, 2, 0, 1);
        });
        sentence("is likely by A of 16 beforehand; each of his n SHIPS is lost by P of 16, if he does, by Q, if not", () -> {
            isWink(4, 9, 9, 0, 0, 1, 4);
            isWink(1, 9, 9, 0, 0, 1, 16);
            isWink(16, 3, 9, 1, 2, 1, 1);
            isWink(8, 16, 0, 6, 6, 1, 1);
            isWink(8, 0, 16, 0, 1, 1, 1);
            isWink(8, 12, 3, 2, 4, 256, 425);
            isWink(15, 16, 15, 6, 6, 16777216, 17536591);
        });
    }

    private static void isRest(String coast, int many, int first, int have) {
        DonkeyLight x = at(coast);
        is(x.carriers(0), many);
        is(x.carriers(1), first);
        is(x.carriers(2), have);
    }

    private static void coastalGames() {
        sentence("they carry by a CELL with a REEF above 0, the exciseman stands in any CELL", () -> {
            isRest("cell 0;cell 0;", 0, -1, 0);
            isRest("cell 9;", 1, 0, -3);
            isRest("cell 0;cell 5;cell 0;", 3, 100, -3);
        });
        sentence("they have -3, if he stands there or beside it, else that REEF", () -> {
            isRest("cell 0;cell 1;cell 1;cell 0;", 4, 101, -3);
            isRest("cell 1;cell 0;cell 0;cell 1;", 0, -1, 0);
            isRest("cell 3;cell 0;cell 3;", 2, 1, -3);
        });
        sentence("neither would have more by another CELL", () -> {
            isRest("cell 0;cell 0;cell 1;cell 2;cell 0;cell 3;", 0, -1, 0);
            isRest("cell 3;cell 9;cell 3;", 3, 1, -3);
        });
        sentence("each has n times its N by all N together, cut", () -> {
            DonkeyLight x = at("door 3;door 5;");
            is(x.share(0, 8), 3);
            is(x.share(1, 8), 5);
            is(x.share(0, 0), 0);
            is(x.share(0, 16), 6);
            is(at("door 9;").share(0, 999), 999);
            is(at("door 1;").share(0, 999), 999);
        });
        sentence("of what is left each one more has one, those first of whose n times N most is left by all, of alike ones the first", () -> {
            DonkeyLight x = at("door 1;door 1;door 1;");
            int[] one = {1, 0, 0};
            int[] two = {1, 1, 0};
            for (int door = 0; door < 3; door++) {
                is(x.share(door, 1), one[door]);
                is(x.share(door, 2), two[door]);
                is(x.share(door, 3), 1);
            }
            DonkeyLight y = at("door 2;door 1;door 1;door 2;");
            int[] twoOfSix = {1, 0, 0, 1};
            int[] fiveOfSix = {2, 1, 1, 1};
            for (int door = 0; door < 4; door++) {
                is(y.share(door, 2), twoOfSix[door]);
                is(y.share(door, 5), fiveOfSix[door]);
            }
        });
    }

    // ------------------------------------------------------------ winters

    private static void winters() {
        sentence("DRAW by 16 below Q: there is fog (if there is none yet)", () -> {
            DonkeyLight x = new DonkeyLight();
            for (int seed = 0; seed < 40; seed++) {
                int drawn = new Draw(seed).by(16);
                is(x.winter(seed, 1, drawn, 3), 0);
                is(x.winter(seed, 1, drawn + 1, 3), 1);
            }
            is(x.winter(7, 96, 0, 3), 0);
            is(x.winter(7, 96, 16, 3), 96);
            DonkeyLight foggy = at(SHORE);
            is(work(foggy, "fog;"), 1);
            is(foggy.winter(7, 1, 16, 3), 1);
            is(foggy.told(6), 1);
        });
        sentence("then the SHIP that is DRAW by how many there are passes, as by pass, whether it passed or not", () -> {
            DonkeyLight x = at("cell 9;ship 5 0 0 0;", "1");
            is(work(x, "pass 0;"), 1);
            is(x.winter(3, 1, 0, 0), 1);
            is(x.winter(3, 1, 0, 1), 5);
            is(x.winter(3, 96, 0, 0), 96);
            DonkeyLight y = at("cell 9;ship 1 0 0 0;ship 2 0 0 0;ship 4 0 0 0;ship 8 0 0 0;ship 16 0 0 0;ship 32 0 0 0;", "1");
            for (int seed = 0; seed < 40; seed++) {
                Draw draw = new Draw(seed);
                draw.by(16);
                is(y.winter(seed, 1, 0, 1), 1L << draw.by(6));
            }
        });
        sentence("(without SHIPS or CELLS none, and there is no DRAW)", () -> {
            DonkeyLight[] all = {new DonkeyLight(), at("cell 9;"), at("ship 1 1 1 1;")};
            for (int seed = 0; seed < 20; seed++) {
                Draw draw = new Draw(seed);
                int foggy = 0;
                for (int night = 0; night < 9; night++) {
                    foggy += draw.by(16) < 5 ? 1 : 0;
                }
                for (DonkeyLight x : all) {
                    is(x.winter(seed, 9, 5, 3), foggy);
                    is(x.winter(seed, 9, 5, 0), 0);
                }
            }
        });
        sentence("then night (beyond 500, too)", () -> {
            DonkeyLight x = at("cell 9;ship 5 0 0 0;", "night - 500");
            untilNight(x, 500);
            is(x.winter(1, 1, 0, 0), 0);
            is(x.winter(1, 2, 0, 0), 1);
            is(x.winter(1, 96, 0, 0), 95);
            is(x.told(5), 500);
            law(x, "fog");
            is(work(x, "fog;"), 1);
            is(x.winter(1, 96, 0, 0), 1);
        });
    }

    private static void draws() {
        sentence("the SEED (32 bits) becomes itself times 1,103,515,245, and 12,345 (it wraps); its bits 16 to 30, what is left of them", () -> {
            DonkeyLight x = at("cell 9;ship 1 0 0 9;ship 2 9 0 9;ship 40 9 0 9;ship 4 1 0 9;ship 7 9 0 9;", "1");
            int[] cargo = {1, 2, 40, 4, 7};
            int[] seeds = {0, 1, -1, 5, Integer.MAX_VALUE, Integer.MIN_VALUE, 123456789, -987654321};
            for (int seed : seeds) {
                Draw draw = new Draw(seed);
                int sum = 0;
                int foggy = 0;
                for (int night = 0; night < 96; night++) {
                    foggy += draw.by(16) < 9 ? 1 : 0;
                    sum += cargo[draw.by(5)];
                }
                is(x.winter(seed, 96, 9, 1), sum);
                is(x.winter(seed, 96, 9, 3), foggy);
            }
        });
    }

    // ------------------------------------------------------------ promises 1 to 9

    private static void promises1To3() {
        sentence("A COAST without CLAUSES.", () -> {
            DonkeyLight x = new DonkeyLight();
            toldFrom(x, 0, 0, 0, 0, 0, 0, 0, 0, 0, 0, 0, 0, 0, 0);
            same(whole(x), whole(at("")));
            is(x.safe(), 0);
            is(x.put(0, 0), 0);
            is(x.put(0, 1), 0);
            is(x.wrecks(0, 0), 0);
            is(x.undo(), -1);
            is(x.restore(), -1);
        });
        sentence("Twenty bytes come on the TAPE, of each number the highest first", () -> {
            DonkeyLight x = new DonkeyLight();
            is(x.feed(0x63656c6c, 0x20373b20, 0x20206365, 0x6c6c2038, 0x3b202020), 20);
            is(x.coast(20), 0);
            is(x.cell(0, 0), 7);
            is(x.cell(1, 0), 8);
        });
        sentence("NONE, doing nothing, if there would be more than 600", () -> {
            DonkeyLight x = new DonkeyLight();
            for (int i = 1; i <= 30; i++) {
                is(x.feed(0x20202020, 0x20202020, 0x20202020, 0x20202020, 0x20202020), 20 * i);
            }
            is(x.feed(0, 0, 0, 0, 0), -1);
            is(x.count(1), 600);
            is(x.feed(1, 1, 1, 1, 1), -1);
            is(x.coast(600), 0);
            is(x.feed(0, 0, 0, 0, 0), 20);
        });
        sentence("The first n bytes of the TAPE (empty then) are the COAST", () -> {
            DonkeyLight x = new DonkeyLight();
            feed(x, "cell 1;cell 2;cell 3;cell 4;");
            is(x.coast(14), 0);
            is(x.told(0), 2);
            is(x.count(1), 0);
            bad(() -> x.coast(1));
            cutShort("cell 12;", 6, -9, 6);
            cutShort("cell 1;cell 2;", 7, 0, -1);
            cutShort("cell 1;cell 2;", 6, -9, 6);
            cutShort("cell 1 ;", 6, -9, 6);
            cutShort("cell  1;", 5, -9, 5);
            cutShort("cell 1;", 4, -9, 4);
            cutShort("cell 1;", 3, -9, 0);
            feed(x, "1+1");
            is(x.law(1), 1);
        });
        sentence("how many SHIPS", () -> {
            DonkeyLight x = new DonkeyLight();
            is(coast(x, times(12, "cell 9;") + times(6, "light 0 1;") + times(3, "donkey 0 1;") + times(6, "ship 40 0 9 9;")
                    + times(6, "door 9;") + "sight 5;"), 6);
            String small = "cell 2;cell 1;light 0 2;donkey 0 3;ship 3 1 0 9;door 1;door 1;";
            is(coast(x, small), 1);
            same(whole(x), whole(at(small)));
            same(answers(x), answers(at(small)));
            law(x, "minute - 1");
            same(answers(x), answers(at(small, "minute - 1")));
            is(coast(x, "door 1;"), 0);
            same(answers(x), answers(at("door 1;")));
        });
        sentence("(NIGHT 0; no LAW, LOG, IMAGES, nothing to undo)", () -> {
            DonkeyLight x = at(SHORE, "1");
            is(log(x, "0 1;"), 1);
            is(work(x, "night;fog;dowse 0;lead 0 5;pass 0;pass 0;"), 5);
            is(x.image(), 1);
            is(coast(x, SHORE), 3);
            toldFrom(x, 5, 0, 0, 0, 0, 0, 0, 0, 0);
            is(x.would(0, 1, 0, 0, 0, 0, 0), false);
            is(x.would(0, 2, 0, 0, 0, 0, 0), true);
            is(x.fits(0), 45);
            is(x.count(0), 0);
            is(x.count(2), 0);
            is(x.restore(), -1);
            is(x.undo(), -1);
            same(whole(x), whole(at(SHORE)));
        });
        sentence("or the FAULT less 10 (all but the TAPE stays)", () -> {
            DonkeyLight x = at(SHORE, "1");
            is(log(x, "0 1;"), 1);
            is(work(x, "night;fog;dowse 0;lead 0 5;pass 0;pass 0;"), 5);
            is(x.image(), 1);
            is(law(x, "cell 1;"), -9);
            String before = whole(x);
            is(coast(x, "cell 1;       ; "), -9);
            is(x.fault(), 14);
            is(x.count(1), 0);
            same(whole(x).replace(" f14 ", " f5 "), before);
            is(x.would(0, 0, 0, 0, 0, 0, 0), true);
            is(coast(x, "cell 10;"), -8);
            is(coast(x, times(7, "door 1;")), -7);
        });
        sentence("n is not 0 to the TAPE's bytes (it stays)", () -> {
            DonkeyLight x = new DonkeyLight();
            bad(() -> x.coast(1));
            feed(x, "cell 7;");
            for (int n : new int[] {-1, 21, 600, Integer.MIN_VALUE, Integer.MAX_VALUE}) {
                bad(() -> x.coast(n));
            }
            is(x.count(1), 20);
            is(x.coast(7), 0);
            is(x.cell(0, 0), 7);
            feed(x, "cell 7;cell 7;");
            is(x.coast(0), 0);
            is(x.told(0), 0);
            feed(x, "cell 7;" + times(13, " "));
            is(x.coast(20), 0);
        });
    }

    /** What stands on the tape behind the text is no part of it. */
    private static void cutShort(String text, int n, int want, int place) {
        DonkeyLight x = new DonkeyLight();
        feed(x, text);
        is(x.coast(n), want);
        is(x.fault(), place);
        is(x.count(1), 0);
    }

    private static void promises4To6() {
        sentence("Likewise the LAW (n to 150): 1.", () -> {
            DonkeyLight x = at("ship 1 1 1 1;");
            feed(x, "1" + times(159, " "));
            for (int n : new int[] {-1, 151, 160, 161, Integer.MIN_VALUE, Integer.MAX_VALUE}) {
                bad(() -> x.law(n));
            }
            is(x.count(1), 160);
            is(x.law(150), 1);
            is(x.count(1), 0);
            is(x.would(0, 0, 0, 0, 0, 0, 0), true);
            feed(x, "0");
            bad(() -> x.law(21));
            is(x.law(0), -9);
            is(x.count(1), 0);
            is(x.would(0, 0, 0, 0, 0, 0, 0), true);
            feed(x, "0123456789");
            is(x.law(1), 1);
            is(x.would(0, 0, 0, 0, 0, 0, 0), false);
        });
        sentence("Likewise WORK (n to 150), which is done", () -> {
            DonkeyLight x = at(SHORE);
            feed(x, "fog;" + times(156, " "));
            for (int n : new int[] {-1, 151, 160, 161, Integer.MIN_VALUE, Integer.MAX_VALUE}) {
                bad(() -> x.work(n));
            }
            is(x.count(1), 160);
            is(x.count(2), 0);
            is(x.work(150), 1);
            is(x.count(1), 0);
            feed(x, "night;night;");
            bad(() -> x.work(21));
            is(x.work(6), 1);
            is(x.told(5), 1);
            is(x.work(0), 0);
        });
        sentence("how many STEPS were done (agains not counted, nor REFUSED ones)", () -> {
            DonkeyLight x = at(SHORE);
            is(work(x, "again 2[again 3[];];"), 0);
            is(work(x, "again 2[fog;again 2[night;];];light 0;"), 6);
            is(x.told(12), 1);
        });
        sentence("or the FAULT less 10 (none is)", () -> {
            DonkeyLight x = at(SHORE);
            is(work(x, "fog;fog;"), 1);
            String before = state(x);
            is(work(x, "night;dowse 0;lead 0 5;pass 0;fogs;"), -9);
            is(x.fault(), 30);
            is(work(x, "night;pass 3;"), -8);
            is(work(x, "night;" + times(7, "again 1[")), -7);
            same(state(x), before);
            is(x.count(2), 1);
            is(x.told(12), 1);
        });
        sentence("Likewise the LOG (n to 100): how many lines.", () -> {
            DonkeyLight x = new DonkeyLight();
            feed(x, "0 1;" + times(116, " "));
            for (int n : new int[] {-1, 101, 120, 121, Integer.MIN_VALUE, Integer.MAX_VALUE}) {
                bad(() -> x.log(n));
            }
            is(x.count(1), 120);
            is(x.log(100), 1);
            is(x.count(1), 0);
            is(log(x, "0 1;1"), -9);
            is(x.told(11), 1);
            is(x.fits(0), 9);
            feed(x, "0 1;1 0;");
            bad(() -> x.log(21));
            is(x.log(0), 0);
            is(x.told(11), 0);
            is(x.fits(0), 45);
        });
    }

    private static DonkeyLight withSixteenWorks() {
        DonkeyLight x = at(SHORE);
        for (int i = 1; i <= 15; i++) {
            is(work(x, ""), 0);
        }
        is(work(x, "fog;fog;"), 1);
        is(x.count(2), 16);
        return x;
    }

    private static void promise5Full() {
        sentence("-20 behind the exception, ahead of the FAULT", () -> {
            DonkeyLight x = withSixteenWorks();
            bad(() -> x.work(1));
            bad(() -> x.work(-1));
            is(work(x, "oops"), -20);
            is(work(x, "night;"), -20);
            is(x.work(0), -20);
        });
        sentence("(nothing is read, there is no FAULT, the TAPE is empty then)", () -> {
            DonkeyLight x = withSixteenWorks();
            String before = state(x);
            is(law(x, "1 1"), -9);
            is(x.fault(), 2);
            is(work(x, "night;"), -20);
            is(x.fault(), -1);
            is(x.count(1), 0);
            is(x.count(2), 16);
            same(state(x), before);
        });
        sentence("16 WORKS are there that were not undone", () -> {
            DonkeyLight x = withSixteenWorks();
            is(x.undo(), 15);
            is(work(x, "oops"), -9);
            is(work(x, "night;"), 1);
            is(work(x, "night;"), -20);
            is(x.image(), 1);
            is(x.undo(), 15);
            is(x.restore(), 0);
            is(work(x, "night;"), -20);
            is(coast(x, SHORE), 3);
            is(work(x, "night;"), 1);
        });
    }

    private static void promises7To9() {
        sentence("The place of the FAULT of the latest text; NONE without.", () -> {
            DonkeyLight x = new DonkeyLight();
            is(x.fault(), -1);
            is(law(x, "1 + ?"), -9);
            is(x.fault(), 4);
            bad(() -> x.coast(1));
            is(x.fault(), 4);
            is(log(x, "60 1;"), -8);
            is(x.fault(), 0);
            is(log(x, ""), 0);
            is(x.fault(), -1);
            is(work(x, "oops"), -9);
            is(x.fault(), 0);
            is(coast(x, ""), 0);
            is(x.fault(), -1);
        });
        sentence("The latest WORK that was done is undone: how many are left; -1: there is none.", () -> {
            DonkeyLight x = at(SHORE);
            is(x.undo(), -1);
            String first = state(x);
            is(work(x, "dowse 0;lead 1 4;fog;pass 2;"), 4);
            String second = state(x);
            is(work(x, "oops"), -9);
            is(work(x, "night;pass 0;pass 1;light 0;"), 4);
            is(x.undo(), 1);
            same(state(x), second);
            is(x.undo(), 0);
            same(state(x), first);
            is(x.undo(), -1);
            same(state(x), first);
        });
        sentence("11 lines of the LOG, 12 STEPS REFUSED by the latest WORK (0 ahead of any, behind coast(), undo(), restore())", () -> {
            DonkeyLight x = at(SHORE);
            is(x.told(12), 0);
            is(work(x, "light 0;light 0;"), 0);
            is(x.told(12), 2);
            is(work(x, "light 0;"), 0);
            is(x.told(12), 1);
            is(x.undo(), 1);
            is(x.told(12), 0);
            is(work(x, "light 0;"), 0);
            is(x.image(), 1);
            is(x.told(12), 1);
            is(x.restore(), 0);
            is(x.told(12), 0);
            is(work(x, "light 0;"), 0);
            is(coast(x, SHORE), 3);
            is(x.told(12), 0);
            is(work(x, "light 0;"), 0);
            is(work(x, "fog;"), 1);
            is(x.told(12), 0);
        });
        sentence("IllegalArgumentException: another what (so below).", () -> {
            DonkeyLight x = at(SHORE);
            onlyFromTo(0, 12, x::told);
        });
    }

    // ------------------------------------------------------------ promises 10 to 19

    private static void promises10To13() {
        sentence("NoSuchElementException: no such CELL, LIGHT, DONKEY, SHIP, DOOR (so below, ahead of others).", () -> {
            DonkeyLight x = at(SHORE);
            onlyThere(6, cell -> x.cell(cell, 0));
            onlyThere(6, cell -> x.cell(cell, 9));
            onlyThere(0, cell -> new DonkeyLight().cell(cell, -1));
        });
        sentence("0 its REEF, 1 LIGHTS there that burn, 2 DONKEYS that stand there, 3 how often one has STRUCK there", () -> {
            DonkeyLight x = at("cell 9;cell 0;" + times(6, "light 0 1;") + times(3, "donkey 1 1;") + "ship 1 1 1 1;", "1");
            onlyFromTo(0, 3, what -> x.cell(0, what));
            is(x.cell(0, 1), 6);
            is(x.cell(1, 1), 0);
            is(x.cell(1, 2), 3);
            is(x.cell(0, 2), 0);
            is(work(x, "dowse 0;dowse 5;lead 2 0;again 9[pass 0;night;];"), 21);
            is(x.cell(0, 1), 4);
            is(x.cell(0, 2), 1);
            is(x.cell(1, 2), 2);
            is(x.cell(0, 3), 9);
            is(x.cell(1, 3), 0);
            DonkeyLight last = at(times(11, "cell 9;") + "cell 9;ship 1 1 1 1;", "cell - 10");
            is(work(last, "pass 0;"), 1);
            for (int cell = 0; cell < 12; cell++) {
                is(last.cell(cell, 3), cell == 11 ? 1 : 0);
            }
        });
        sentence("Of a LIGHT: 0 X, 1 P, 2 1 it burns, 0 not.", () -> {
            DonkeyLight x = at(SHORE);
            onlyThere(2, light -> x.light(light, 0));
            onlyThere(2, light -> x.light(light, 9));
            onlyFromTo(0, 2, what -> x.light(1, what));
            is(work(x, "dowse 1;"), 1);
            is(x.light(1, 2), 0);
            is(x.light(0, 2), 1);
        });
        sentence("Of a DONKEY: 0 X now, 1 P.", () -> {
            DonkeyLight x = at(SHORE);
            onlyThere(2, donkey -> x.donkey(donkey, 0));
            onlyThere(2, donkey -> x.donkey(donkey, 9));
            onlyFromTo(0, 1, what -> x.donkey(1, what));
            is(work(x, "lead 1 5;"), 1);
            is(x.donkey(1, 0), 5);
            is(x.donkey(1, 1), 3);
        });
        sentence("4 1 it passed in this NIGHT, 0 not, 5 how often it has STRUCK by now", () -> {
            DonkeyLight x = at(SHORE);
            onlyThere(3, ship -> x.ship(ship, 0));
            onlyThere(3, ship -> x.ship(ship, 9));
            onlyFromTo(0, 5, what -> x.ship(2, what));
            is(work(x, "pass 2;"), 1);
            is(x.ship(2, 4), 1);
            is(x.ship(2, 5), 1);
            is(work(x, "night;"), 1);
            is(x.ship(2, 4), 0);
            is(x.ship(2, 5), 1);
        });
    }

    private static void promises14And15() {
        sentence("SEEN off a CELL in a MINUTE (0 to 99), as all is now (DONKEYS gone on from where they stand).", () -> {
            DonkeyLight x = at(SHORE);
            onlyThere(6, cell -> x.seen(cell, 0));
            onlyThere(6, cell -> x.seen(cell, 100));
            onlyFromTo(0, 99, minute -> x.seen(0, minute));
            is(x.seen(5, 99), 2);
            is(work(x, "lead 0 4;"), 1);
            is(x.seen(5, 1), 1);
            is(x.seen(1, 1), 1);
        });
        sentence("by such seen, dark (0 to 20), minute, cell (0 to 11), night (0 to 500), fog (0, 1)", () -> {
            DonkeyLight x = at("ship 1 1 1 1;");
            onlyFromTo(0, 20, n -> x.would(0, n, 0, 0, 0, 0, 0) ? 1 : 0);
            onlyFromTo(0, 20, n -> x.would(0, 0, n, 0, 0, 0, 0) ? 1 : 0);
            onlyFromTo(0, 11, n -> x.would(0, 0, 0, n, 0, 0, 0) ? 1 : 0);
            onlyFromTo(0, 11, n -> x.would(0, 0, 0, 0, n, 0, 0) ? 1 : 0);
            onlyFromTo(0, 1, n -> x.would(0, 0, 0, 0, 0, 0, n) ? 1 : 0);
            DonkeyLight y = at("ship 1 1 1 1;");
            for (int n : new int[] {0, 1, 499, 500}) {
                is(answer(() -> y.would(0, 0, 0, 0, 0, n, 0) ? 1 : 0), 0);
            }
            for (int n : new int[] {-1, 501, Integer.MIN_VALUE, Integer.MAX_VALUE}) {
                bad(() -> y.would(0, 0, 0, 0, 0, n, 0) ? 1 : 0);
            }
        });
        sentence("Whether a SHIP would steer IN by the LAW", () -> {
            DonkeyLight x = at(SHORE, "crew - 8");
            onlyThere(3, ship -> x.would(ship, 0, 0, 0, 0, 0, 0) ? 1 : 0);
            onlyThere(3, ship -> x.would(ship, 21, 21, 12, 12, 501, 2) ? 1 : 0);
            is(x.would(1, 0, 0, 0, 0, 0, 0), false);
            is(x.would(2, 0, 0, 0, 0, 0, 0), true);
            law(x, "night - 499 + seen - 20 + dark - 20 + minute - 11 + cell - 11 + fog - 1");
            is(x.would(0, 20, 20, 11, 11, 500, 1), true);
            is(x.would(0, 20, 20, 11, 11, 499, 1), false);
        });
    }

    private static void promises16And17() {
        sentence("0 the CELL in which it has STRUCK (NONE: it is SAFE)", () -> {
            DonkeyLight x = at(SHORE, "cell - 4");
            onlyThere(3, ship -> x.tried(ship, 0));
            onlyThere(3, ship -> x.tried(ship, 9));
            onlyFromTo(0, 4, what -> x.tried(0, what));
            is(x.tried(0, 0), 5);
            law(x, "0");
            is(x.tried(0, 0), -1);
            law(x, "1");
            is(at("cell 9;ship 1 1 1 1;", "1").tried(0, 0), 0);
            is(at("ship 1 1 1 9;", "1").tried(0, 0), -1);
        });
        sentence("1 CELLS off which it steers IN (bits; to the one in which it has STRUCK, that one, too)", () -> {
            DonkeyLight x = at("cell 0;cell 9;cell 9;ship 1 1 1 1;", "1");
            is(x.tried(0, 1), 3);
            law(x, "cell - 1");
            is(x.tried(0, 1), 4);
            law(x, "0");
            is(x.tried(0, 1), 0);
            is(at(times(12, "cell 0;") + "ship 1 1 1 1;", "1").tried(0, 1), 0xfff);
            is(at("ship 1 1 1 1;", "1").tried(0, 1), 0);
        });
        sentence("2 how many are ALIVE (CREW, if it is SAFE)", () -> {
            DonkeyLight x = at("cell 3;ship 1 5 1 9;ship 1 2 1 9;ship 1 9 1 0;", "1");
            is(x.tried(0, 2), 2);
            is(x.tried(1, 2), 0);
            is(x.tried(2, 2), 9);
            is(at("ship 1 4 1 1;", "1").tried(0, 2), 4);
        });
        sentence("3 CARGO the parish has by it", () -> {
            DonkeyLight x = at("cell 3;ship 7 4 1 9;ship 8 3 1 9;ship 9 0 1 0;", "1");
            is(x.tried(0, 3), 0);
            is(x.tried(1, 3), 8);
            is(x.tried(2, 3), 0);
        });
        sentence("4 how many flashes it sees in all", () -> {
            DonkeyLight x = at("cell 0;cell 9;cell 9;ship 1 1 1 1;light 1 1;light 1 1;", "cell");
            is(x.tried(0, 4), 4);
            law(x, "0");
            is(x.tried(0, 4), 6);
            is(at("ship 1 1 1 1;").tried(0, 4), 0);
        });
        sentence("SHIPS (bits) that are SAFE by TRIES.", () -> {
            is(new DonkeyLight().safe(), 0);
            is(at(times(6, "ship 1 1 1 1;"), "1").safe(), 63);
            is(at("cell 9;" + times(6, "ship 1 1 1 1;"), "1").safe(), 0);
            is(at("cell 9;ship 1 1 1 1;ship 1 1 0 1;ship 1 1 1 1;", "trust").safe(), 2);
            is(at("cell 9;cell 9;light 0 1;ship 1 1 0 1;ship 1 1 1 1;", "cell - trust * 2").safe(), 2);
        });
    }

    private static void promises18And19() {
        sentence("0 the CARGO, 1 CELLS of the DONKEYS (CELL of 0, 16 times that of 1, 256 times that of 2)", () -> {
            DonkeyLight x = at(times(11, "cell 0;") + "cell 9;donkey 0 1;donkey 0 1;donkey 0 1;sight 0;ship 40 0 0 0;", "1 - seen");
            onlyFromTo(0, 1, what -> x.put(1, what));
            is(x.put(1, 0), 0);
            is(x.put(1, 1), 0);
            DonkeyLight y = at("cell 9;" + times(11, "cell 0;")
                    + "donkey 0 1;donkey 0 1;donkey 0 1;sight 5;ship 40 0 0 0;", "1 - seen");
            is(y.put(1, 0), 40);
            is(y.put(1, 1), 0x666);
        });
        sentence("`int put(int ships, int what) throws IllegalArgumentException`: PUT of told SHIPS", () -> {
            DonkeyLight x = at(SHORE, "1");
            is(x.put(0, 0), 0);
            is(x.put(0, 1), 0);
            is(at("ship 1 1 1 1;", "1").put(1, 0), 0);
            is(at("ship 1 1 1 1;", "1").put(1, 1), 0);
            is(at("cell 9;ship 7 0 0 0;", "1").put(1, 0), 7);
            is(at("cell 9;ship 7 0 0 0;", "1").put(1, 1), 0);
        });
        sentence("IllegalArgumentException: bits of no SHIPS.", () -> {
            DonkeyLight x = at(SHORE);
            onlyFromTo(0, 7, ships -> x.put(ships, 0));
            onlyFromTo(0, 7, ships -> x.wrecks(ships, 0));
            DonkeyLight six = at(times(6, "ship 1 1 1 1;"));
            onlyFromTo(0, 63, ships -> six.put(ships, 0));
            DonkeyLight none = new DonkeyLight();
            onlyFromTo(0, 0, ships -> none.put(ships, 0));
            onlyFromTo(0, 0, ships -> none.wrecks(ships, 2));
        });
        sentence("0 how many are SAFE, 1 X, 2 P; NONE: there are no CELLS", () -> {
            DonkeyLight none = at("ship 1 1 1 1;");
            for (int what = 0; what < 3; what++) {
                is(none.save(what), -1);
                is(new DonkeyLight().save(what), -1);
            }
            onlyFromTo(0, 2, what -> none.save(what));
            DonkeyLight one = at("cell 1;");
            onlyFromTo(0, 2, what -> one.save(what));
            is(one.save(0), 0);
            is(one.save(1), 0);
            is(one.save(2), 1);
        });
    }

    // ------------------------------------------------------------ promises 20 to 26

    private static void promises20To23() {
        sentence("0 how many, 1 the first (10 times P and A; by P, then A; NONE)", () -> {
            DonkeyLight x = new DonkeyLight();
            onlyFromTo(0, 1, what -> x.fits(what));
            is(log(x, "0 1;1 1;2 0;"), 3);
            is(x.fits(0), 0);
            is(x.fits(1), -1);
            is(log(x, "0 0;1 0;"), 2);
            is(x.fits(1), 32);
            is(log(x, "0 0;"), 1);
            is(x.fits(1), 21);
        });
        sentence("0 the MINUTE, 1 how many FITS are left at the worst", () -> {
            DonkeyLight x = new DonkeyLight();
            onlyFromTo(0, 1, what -> x.look(what));
            is(x.look(1), 36);
        });
        sentence("CODE of n (1 to 8): 0 how many, 1 the least (NONE).", () -> {
            DonkeyLight x = at("cell 0;donkey 0 9;donkey 0 1;");
            onlyFromTo(1, 8, n -> x.code(n, 0));
            onlyFromTo(1, 8, n -> x.code(n, 1));
            onlyFromTo(0, 1, what -> x.code(8, what));
            is(x.code(1, 0), 0);
            is(x.code(1, 1), -1);
            is(x.code(8, 1), 3);
            is(new DonkeyLight().code(1, 1), 0);
            is(at("cell 0;donkey 0 2;").code(2, 1), 0);
        });
    }

    private static void promises24To26() {
        sentence("WINK (a, p, q 0 to 16; n 0 to 6; l 0 to n): above (part 0), below (part 1), in least terms.", () -> {
            DonkeyLight x = new DonkeyLight();
            onlyFromTo(0, 16, a -> x.wink(a, 1, 1, 0, 0, 0));
            onlyFromTo(0, 16, p -> x.wink(1, p, 1, 0, 0, 0));
            onlyFromTo(0, 16, q -> x.wink(1, 1, q, 0, 0, 0));
            onlyFromTo(0, 6, n -> x.wink(1, 1, 1, 0, n, 0));
            for (int n = 0; n <= 6; n++) {
                int ships = n;
                onlyFromTo(0, n, l -> x.wink(1, 1, 1, l, ships, 1));
            }
            onlyFromTo(0, 1, part -> x.wink(1, 1, 1, 0, 0, part));
            bad(() -> x.wink(1, 1, 1, 0, -1, 0));
            bad(() -> x.wink(1, 1, 1, 7, 7, 0));
        });
        sentence("1 the first (100 times their CELL, and his; NONE), 2 what they have by it (0 without)", () -> {
            DonkeyLight x = new DonkeyLight();
            onlyFromTo(0, 2, what -> x.carriers(what));
            is(x.carriers(0), 0);
            is(x.carriers(1), -1);
            is(x.carriers(2), 0);
            DonkeyLight y = at("cell 1;cell 0;cell 0;cell 1;");
            is(y.carriers(1), -1);
            is(y.carriers(2), 0);
            isRest("cell 0;cell 0;cell 0;cell 0;cell 0;cell 0;cell 0;cell 0;cell 0;cell 0;cell 0;cell 1;", 2, 1110, -3);
        });
        sentence("What a DOOR gets of n (0 to 999) by SHARES.", () -> {
            DonkeyLight x = at("door 3;door 5;");
            onlyThere(2, door -> x.share(door, 0));
            onlyThere(2, door -> x.share(door, 1000));
            for (int n : new int[] {-1, 1000, Integer.MIN_VALUE, Integer.MAX_VALUE}) {
                bad(() -> x.share(0, n));
            }
            is(x.share(0, 999), 375);
            is(x.share(1, 999), 624);
            is(x.share(0, 0), 0);
            is(x.share(1, 1), 1);
        });
    }

    // ------------------------------------------------------------ promises 27 to 35

    private static void promises27To30() {
        sentence("SHIPS (bits) that would have STRUCK in a CELL, steered they IN there.", () -> {
            DonkeyLight x = at("cell 0;cell 1;cell 5;cell 6;ship 1 1 1 0;ship 1 1 1 1;ship 1 1 1 4;ship 1 1 1 5;ship 1 1 1 9;", "0");
            int[] drawn = {0, 0b11000, 0b11110, 0b11111};
            for (int cell = 0; cell < 4; cell++) {
                is(x.drawn(cell), drawn[cell]);
            }
            onlyThere(4, cell -> x.drawn(cell));
            is(at("cell 9;").drawn(0), 0);
        });
        sentence("The first MINUTE, m (0 to 99) or later, in which a LIGHT flashes, burns it or not.", () -> {
            DonkeyLight x = at("cell 0;light 0 9;light 0 1;");
            onlyThere(2, light -> x.flash(light, 0));
            onlyThere(2, light -> x.flash(light, 100));
            onlyFromTo(0, 99, m -> x.flash(0, m));
            is(x.flash(0, 0), 0);
            is(x.flash(0, 1), 9);
            is(x.flash(0, 99), 99);
            is(x.flash(0, 91), 99);
            is(x.flash(1, 99), 99);
            is(work(x, "dowse 0;"), 1);
            is(x.flash(0, 90), 90);
            is(at("cell 0;light 0 8;").flash(0, 99), 104);
        });
        sentence("MINUTES (bits, 0 to 29) in which a DONKEY and a LIGHT flash both (what 0), just one of them does (1).", () -> {
            DonkeyLight x = at("cell 0;light 0 1;light 0 2;donkey 0 1;donkey 0 3;donkey 0 9;");
            onlyThere(3, donkey -> x.alike(donkey, 0, 0));
            onlyThere(3, donkey -> x.alike(donkey, 0, 9));
            onlyThere(2, light -> x.alike(0, light, 0));
            onlyThere(2, light -> x.alike(0, light, 9));
            onlyFromTo(0, 1, what -> x.alike(0, 0, what));
            is(x.alike(0, 0, 0), (1 << 30) - 1);
            is(x.alike(0, 0, 1), 0);
            is(x.alike(2, 0, 0), 1 | 1 << 9 | 1 << 18 | 1 << 27);
            is(x.alike(0, 1, 1), 0x2aaaaaaa);
            is(x.alike(1, 1, 0), 1 | 1 << 6 | 1 << 12 | 1 << 18 | 1 << 24);
        });
        sentence("The first MINUTE of a TRY in which a SHIP sees nothing; NONE.", () -> {
            DonkeyLight x = at("cell 0;cell 9;cell 0;ship 1 1 1 1;light 0 1;sight 1;", "0");
            onlyThere(1, ship -> x.blind(ship));
            is(x.blind(0), 2);
            law(x, "1");
            is(x.blind(0), -1);
            is(work(x, "dowse 0;"), 1);
            is(x.blind(0), 0);
            DonkeyLight y = at("cell 0;cell 9;ship 1 1 1 1;light 0 1;sight 0;", "cell");
            is(y.blind(0), 1);
            is(at("ship 1 1 1 1;").blind(0), -1);
            is(at("cell 1;light 0 1;ship 1 1 1 1;").blind(0), -1);
        });
    }

    private static void isReefs(String coast, int row, int first, int all) {
        DonkeyLight x = at(coast);
        is(x.reefs(0), row);
        is(x.reefs(1), first);
        is(x.reefs(2), all);
    }

    private static void promises31To33() {
        sentence("the first of it (1; of alike ones the first; NONE)", () -> {
            DonkeyLight none = new DonkeyLight();
            onlyFromTo(0, 2, what -> none.reefs(what));
            isReefs("", 0, -1, 0);
            isReefs("cell 0;cell 0;", 0, -1, 0);
            isReefs("cell 1;", 1, 0, 1);
            isReefs(times(12, "cell 9;"), 12, 0, 108);
            isReefs("cell 1;cell 2;cell 0;cell 3;cell 4;", 2, 0, 10);
            isReefs("cell 1;cell 0;cell 3;cell 4;", 2, 2, 8);
            isReefs("cell 0;cell 0;cell 4;", 1, 2, 4);
        });
        sentence("The CELL off which most flashes are SEEN in the MINUTE of its number (what 0), of alike ones the first", () -> {
            DonkeyLight x = at(SHORE);
            onlyFromTo(0, 1, what -> x.brightest(what));
            is(x.brightest(0), 0);
            is(x.brightest(1), 2);
            DonkeyLight dark = at("cell 0;cell 0;");
            is(dark.brightest(0), 0);
            is(dark.brightest(1), 0);
            DonkeyLight last = at("cell 0;cell 0;light 1 1;sight 0;");
            is(last.brightest(0), 1);
            is(last.brightest(1), 1);
        });
        sentence("NONE both: there are no CELLS", () -> {
            DonkeyLight x = at("ship 1 1 1 1;");
            is(x.brightest(0), -1);
            is(x.brightest(1), -1);
            onlyFromTo(0, 1, what -> x.brightest(what));
        });
        sentence("0 how many have STRUCK, 1 CARGO of those together, 2 how many of those are ALIVE", () -> {
            DonkeyLight x = at("cell 3;ship 7 4 1 9;ship 8 3 1 9;ship 9 9 1 0;", "1");
            onlyFromTo(0, 2, what -> x.wrecks(7, what));
            int[] all = {2, 15, 1};
            for (int what = 0; what < 3; what++) {
                is(x.wrecks(7, what), all[what]);
                is(x.wrecks(0, what), 0);
                is(x.wrecks(4, what), 0);
            }
            is(x.wrecks(2, 1), 8);
            law(x, "0");
            is(x.wrecks(7, 0), 0);
            is(at("ship 1 1 1 1;", "1").wrecks(1, 0), 0);
        });
    }

    private static void promises34And35() {
        sentence("A WINTER of so many NIGHTS (1 to 96), Q (0 to 16)", () -> {
            DonkeyLight x = at(SHORE);
            onlyFromTo(1, 96, nights -> x.winter(1, nights, 0, 0));
            onlyFromTo(0, 16, q -> x.winter(1, 1, q, 0));
            onlyFromTo(0, 3, what -> x.winter(1, 1, 0, what));
            is(x.winter(Integer.MIN_VALUE, 96, 16, 3), 96);
            is(x.winter(Integer.MAX_VALUE, 96, 16, 3), 96);
        });
        sentence("0 how often one has STRUCK in it, 1 CARGO the parish has in it, 2 how many are ALIVE of those, 3 NIGHTS with fog", () -> {
            DonkeyLight x = at("cell 2;ship 5 9 0 9;", "1");
            is(work(x, "pass 0;night;pass 0;fog;"), 4);
            is(x.winter(77, 1, 0, 0), 1);
            is(x.winter(77, 1, 0, 1), 0);
            is(x.winter(77, 1, 0, 2), 7);
            is(x.winter(77, 3, 0, 2), 21);
            is(x.told(10), 14);
            DonkeyLight y = at("cell 9;ship 40 9 0 9;", "1");
            is(work(y, "pass 0;"), 1);
            is(y.winter(77, 96, 0, 1), 3840);
            is(y.told(8), 40);
        });
        sentence("Of so many SEEDS (1 to 20; seed, seed and 1, ..)", () -> {
            DonkeyLight x = at(SHORE);
            onlyFromTo(1, 20, many -> x.span(1, many, 1, 0, 0));
            onlyFromTo(1, 96, nights -> x.span(1, 1, nights, 0, 0));
            onlyFromTo(0, 16, q -> x.span(1, 1, 1, q, 0));
            onlyFromTo(0, 2, what -> x.span(1, 1, 1, 0, what));
        });
        sentence("0 the least CARGO the parish has, 1 the most, 2 by how many nobody has STRUCK", () -> {
            DonkeyLight x = at("cell 9;ship 1 0 0 0;ship 2 0 0 0;ship 4 0 0 0;ship 8 0 9 0;", "trust - fog * 4");
            for (int first : new int[] {7, Integer.MAX_VALUE - 9, -10}) {
                int least = Integer.MAX_VALUE;
                int most = 0;
                int calm = 0;
                for (int i = 0; i < 20; i++) {
                    int cargo = x.winter(first + i, 4, 8, 1);
                    least = Math.min(least, cargo);
                    most = Math.max(most, cargo);
                    calm += x.winter(first + i, 4, 8, 0) == 0 ? 1 : 0;
                }
                is(x.span(first, 20, 4, 8, 0), least);
                is(x.span(first, 20, 4, 8, 1), most);
                is(x.span(first, 20, 4, 8, 2), calm);
                is(x.span(first, 1, 4, 8, 1), x.winter(first, 4, 8, 1));
            }
            DonkeyLight all = at("cell 9;ship 40 9 0 9;", "1");
            is(all.span(-3, 20, 96, 16, 0), 3840);
            is(all.span(-3, 20, 96, 16, 1), 3840);
            is(all.span(-3, 20, 96, 16, 2), 0);
            is(new DonkeyLight().span(-3, 20, 96, 16, 2), 20);
            is(new DonkeyLight().span(-3, 20, 96, 16, 0), 0);
        });
    }

    // ------------------------------------------------------------ promises 36 to 39

    private static void promises36And37() {
        sentence("An IMAGE of all that WORK changes, and of WORKS that can be undone: how many there are; -1: there are 3.", () -> {
            DonkeyLight x = at(SHORE);
            is(x.image(), 1);
            is(x.image(), 2);
            is(x.image(), 3);
            is(work(x, "fog;fog;"), 1);
            is(x.image(), -1);
            is(x.count(0), 3);
            is(x.told(12), 1);
            is(x.restore(), 2);
            is(x.told(6), 0);
            is(x.image(), 3);
        });
        sentence("All that is as in the latest IMAGE, which is gone: how many are left; -1: there is none.", () -> {
            DonkeyLight x = at(SHORE);
            is(x.restore(), -1);
            String first = state(x);
            is(x.image(), 1);
            is(work(x, "dowse 0;lead 1 4;fog;pass 0;"), 4);
            String second = state(x);
            is(x.image(), 2);
            is(work(x, "night;pass 1;dowse 1;lead 0 5;"), 4);
            is(x.undo(), 1);
            is(x.undo(), 0);
            is(x.restore(), 1);
            same(state(x), second);
            is(x.count(2), 1);
            is(x.undo(), 0);
            same(state(x), first);
            is(x.restore(), 0);
            same(state(x), first);
            is(x.count(2), 0);
            is(x.restore(), -1);
            same(state(x), first);
        });
        sentence("and of WORKS that can be undone", () -> {
            DonkeyLight x = at(SHORE);
            is(work(x, "lead 0 1;"), 1);
            is(work(x, "lead 0 2;"), 1);
            is(x.image(), 1);
            is(x.undo(), 1);
            is(x.undo(), 0);
            is(work(x, "lead 0 5;"), 1);
            is(work(x, "lead 0 4;"), 1);
            is(x.restore(), 0);
            is(x.donkey(0, 0), 2);
            is(x.undo(), 1);
            is(x.donkey(0, 0), 1);
            is(x.undo(), 0);
            is(x.donkey(0, 0), 0);
        });
    }

    private static void promises38And39() {
        sentence("How many calls were refused: 0 NoSuchElementException, 1 IllegalArgumentException; NONE for others. (No IMAGE keeps it.)", () -> {
            DonkeyLight x = at(SHORE);
            is(x.status(0), 0);
            is(x.status(1), 0);
            for (int what : new int[] {-1, 2, Integer.MIN_VALUE, Integer.MAX_VALUE}) {
                is(x.status(what), -1);
            }
            is(x.image(), 1);
            missing(() -> x.cell(6, 9));
            bad(() -> x.cell(0, 9));
            bad(() -> x.coast(1));
            is(x.restore(), 0);
            is(x.status(0), 1);
            is(x.status(1), 2);
            is(coast(x, ""), 0);
            is(work(x, "oops"), -9);
            is(x.feed(0, 0, 0, 0, 0), 20);
            is(x.undo(), -1);
            is(x.status(0), 1);
            is(x.status(1), 2);
        });
        sentence("0 IMAGES, 1 bytes of the TAPE, 2 WORKS that can be undone; NONE for others.", () -> {
            DonkeyLight x = new DonkeyLight();
            for (int what = 0; what < 3; what++) {
                is(x.count(what), 0);
            }
            for (int what : new int[] {-1, 3, Integer.MIN_VALUE, Integer.MAX_VALUE}) {
                is(x.count(what), -1);
            }
            is(x.image(), 1);
            is(x.image(), 2);
            is(work(x, ""), 0);
            x.feed(0, 0, 0, 0, 0);
            x.feed(0, 0, 0, 0, 0);
            x.feed(0, 0, 0, 0, 0);
            is(x.count(0), 2);
            is(x.count(1), 60);
            is(x.count(2), 1);
        });
    }
}
