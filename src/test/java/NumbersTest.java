/** Numbers and the commands that reckon with them, sentence by sentence with their limits. */
public final class NumbersTest {
    private static final String NINES_20 = Desk.times("9", 20);
    private static final String NINES_30 = Desk.times("9", 30);
    private static final String NINES_40 = Desk.times("9", 40);
    private static final String NINES_59 = Desk.times("9", 59);
    private static final String NINES_60 = Desk.times("9", 60);
    private static final String ZEROS_38 = Desk.times("0", 38);
    private static final String ZEROS_39 = Desk.times("0", 39);
    private static final String ZEROS_40 = Desk.times("0", 40);
    /** 10 to the power 20, of 21 digits, and 10 to the power 59, of 60. */
    private static final String TEN_20 = "1" + Desk.times("0", 20);
    private static final String TEN_59 = "1" + Desk.times("0", 59);
    /** The smallest number of scale 40. */
    private static final String LEAST = "." + ZEROS_39 + "1";

    public static void main(String[] args) {
        scales();
        sizes();
        cutting();
        widening();
        numerals();
        sums();
        products();
        productsOfSize60();
        quotients();
        quotientsByZero();
        remainders();
        remaindersOfScale40();
        hardDivisions();
        exponents();
        powers();
        powersBelowZero();
        exactPowers();
        roots();
        rootsOfSize60();
        scaleToBeWorkedWith();
        afterLongNumbers();
        Desk.close("NumbersTest");
    }

    private static void reckons(String program, String due) {
        Desk.reckons(program, due);
    }

    private static void fails(String ready, String command, int error) {
        Twins.undoneAmong(ready, command, error);
    }

    private static void scales() {
        Desk.says("A NUMBER is a whole number W, of either sign, with a SCALE s, 0 .. 40: it stands for W / 10^s.");
        for (int scale = 0; scale <= 40; scale++) {
            String digits = Desk.times("7", scale);
            reckons("1." + digits + "X", "" + scale);
            reckons("_1." + digits, "-1" + (scale > 0 ? "." + digits : ""));
        }
        reckons("." + ZEROS_38 + "1X", "39");
        reckons(LEAST + "X", "40");
        reckons("_" + LEAST, "-" + LEAST);
        fails("", "." + ZEROS_40 + "1 ", MacroReckoner.SIZE);
        fails("", "_." + ZEROS_40 + "1 ", MacroReckoner.SIZE);
        fails("", "1." + ZEROS_40 + "0 ", MacroReckoner.SIZE);
        new Desk().does("[[same]n]sa1.0 1=a_1 _1." + ZEROS_40 + "=a100.0 1000=a").paper("samesame");
    }

    private static void sizes() {
        Desk.says("Its SIZE is the number of digits of W without zeros in front (0 for 0); a number has a size of"
            + " 60 at most.");
        new Desk().does("0Z _0Z 0.00Z 1Z 9Z 10Z 0.05Z _12.50Z 007Z ").stack("1 4 1 2 1 1 0 0 0 ");
        for (int digits = 1; digits <= 60; digits++) {
            reckons(Desk.times("9", digits) + "Z", "" + digits);
            reckons("_1" + Desk.times("0", digits - 1) + "Z", "" + digits);
        }
        reckons(NINES_59 + "Z", "59");
        reckons(NINES_60, NINES_60);
        reckons("_" + NINES_60, "-" + NINES_60);
        reckons(NINES_20 + "." + NINES_40, NINES_20 + "." + NINES_40);
        reckons(Desk.times("0", 38) + NINES_60, NINES_60);
        reckons(Desk.times("0", 98), "0");
        fails("", "9" + NINES_60 + " ", MacroReckoner.SIZE);
        fails("", TEN_59 + "0 ", MacroReckoner.SIZE);
        fails("", "_" + TEN_59 + "0 ", MacroReckoner.SIZE);
        fails("", TEN_59 + ".0 ", MacroReckoner.SIZE);
        fails("", TEN_20 + "." + ZEROS_40 + " ", MacroReckoner.SIZE);
        Twins.undone("", "_" + Desk.times("1", 88), MacroReckoner.SIZE);
    }

    private static void cutting() {
        Desk.says("To CUT a number to a scale t below its own means to leave the last digits of W out (towards 0)");
        reckons("1.99 1/", "1");
        reckons("_1.99 1/", "-1");
        reckons("1k1.99 1/", "1.9");
        reckons("1k_1.99 1/", "-1.9");
        reckons("2k1.99 1/", "1.99");
        reckons("1.9 1.9*", "3.6");
        reckons("_1.9 1.9*", "-3.6");
        reckons("1.9 2^", "3.6");
        reckons("_1.9 3^", "-6.8");
        // All digits may go; what is left is 0, not below it, and keeps its scale.
        new Desk().does(".99 1/_.99 1/_.1 .1*_.1 3^").stack("0 0 0 0 ").does("XrXr").does("nn").paper("11");
        new Desk().does("[[zero]n]sa0_.99 1/=a").paper("zero");
        new Desk().does("_.99 1/Zn _.1 .1*Zn").paper("00");
        // Groups of digits may go whole.
        reckons("1234567890.123456789 1/", "1234567890");
        reckons("1234567890.1234567890123456789 1/", "1234567890");
        reckons("9k1234567890.1234567890123456789 1/", "1234567890.123456789");
    }

    private static void widening() {
        Desk.says("to WIDEN it to a scale above, to append zeros to W.");
        reckons("1 0.00+", "1.00");
        reckons("0.00 _1+", "-1.00");
        reckons("1.5 0." + ZEROS_40 + "+", "1.5" + ZEROS_39);
        reckons("0 0." + ZEROS_40 + "+X", "40");
        reckons("123456789 .0000000001+", "123456789.0000000001");
        reckons("123456789 .0000000000000000001-", "123456788.9999999999999999999");
        // Twenty digits and forty zeros are just small enough.
        reckons(NINES_20 + " 0." + ZEROS_40 + "+", NINES_20 + "." + ZEROS_40);
        reckons(NINES_20 + " " + LEAST + "+", NINES_20 + LEAST);
        fails(TEN_20 + " 0." + ZEROS_40 + " ", "+", MacroReckoner.SIZE);
        fails("0." + ZEROS_40 + " " + TEN_20 + " ", "-", MacroReckoner.SIZE);
        // It is the result's size that counts: what is widened here would have the size 61.
        reckons(TEN_20 + " " + LEAST + "-", NINES_20 + "." + NINES_40);
        reckons("_" + TEN_20 + " " + LEAST + "+", "-" + NINES_20 + "." + NINES_40);
        // A comparison has no result.
        new Desk().does("[[less]n]sa").does(NINES_60 + " " + LEAST + " <a").paper("less");
    }

    private static void numerals() {
        Desk.says("a numeral comes on the stack, its scale being how many digits are behind its point.");
        new Desk().does("1 _2 3. .4 _.5 _6.70 007 0.50 _0 0.00 _.0 _8. ")
            .stack("-8 0 0 0 .50 7 -6.70 -.5 .4 3 -2 1 ");
        new Desk().does("3X 3.X .4X .40X 0.00X _.0X _12.3400X ").stack("4 1 2 2 1 0 0 ");
        reckons("0." + ZEROS_39 + "X", "39");
        reckons("0." + ZEROS_40 + "X", "40");
        fails("", "0." + ZEROS_40 + "0 ", MacroReckoner.SIZE);
    }

    private static void sums() {
        Desk.says("+ - (x y): x + y, x - y with the greater scale.");
        reckons("1.50 2.5+", "4.00");
        reckons("1.5 2.50-", "-1.00");
        reckons("2.5 _2.50+X", "2");
        reckons("2.50 2.5-X", "2");
        reckons("_1 _2+", "-3");
        reckons("_1 _2-", "1");
        reckons("5 _7+", "-2");
        reckons("_5 7+", "2");
        reckons("5 7-", "-2");
        reckons("5 5-", "0");
        reckons("_5d-", "0");
        reckons("40k1.5 1+", "2.5");
        reckons("999999999 1+", "1000000000");
        reckons("999999999999999999 1+", "1000000000000000000");
        reckons("1000000000000000000 1-", "999999999999999999");
        reckons("1000000000 999999999-", "1");
        reckons(TEN_59 + " 1-", NINES_59);
        reckons(NINES_60 + " 1-", NINES_59 + "8");
        reckons(NINES_59 + "8 1+", NINES_60);
        fails(NINES_60 + " 1 ", "+", MacroReckoner.SIZE);
        fails("1 " + NINES_60 + " ", "+", MacroReckoner.SIZE);
        fails("_" + NINES_60 + " 1 ", "-", MacroReckoner.SIZE);
        fails(TEN_59 + " .1 ", "+", MacroReckoner.SIZE);
        reckons(NINES_59 + " .9+", NINES_59 + ".9");
    }

    private static void products() {
        Desk.says("* (x y): the exact product, cut to the lesser of both scales' sum and the greatest of K and"
            + " both scales (if that is less).");
        reckons("1.25 1.5*", "1.87");
        reckons("1.5 1.25*", "1.87");
        reckons("_1.25 1.5*", "-1.87");
        reckons("1.25 _1.5*", "-1.87");
        reckons("_1.25 _1.5*", "1.87");
        reckons("1k1.25 1.5*", "1.87");
        reckons("2k1.25 1.5*", "1.87");
        reckons("3k1.25 1.5*", "1.875");
        reckons("4k1.25 1.5*", "1.875");
        reckons("40k1.25 1.5*", "1.875");
        reckons("2 3*", "6");
        reckons("40k2 3*X", "0");
        reckons("2 0.5*", "1.0");
        reckons("0.50 2*", "1.00");
        reckons("0 _2.5*", "0");
        reckons("0 _2.5*X", "1");
        reckons(".1 _.1*X", "1");
        reckons("1k.1 _.1*X", "1");
        reckons("2k.1 _.1*", "-.01");
        reckons("40k" + LEAST + "d*X", "40");
        reckons(LEAST + " 0.1*X", "40");
        reckons("40k." + ZEROS_38 + "1 .1*", LEAST);
        reckons("999999999999999999d*", "999999999999999998000000000000000001");
    }

    private static void productsOfSize60() {
        reckons(NINES_30 + "d*Z", "60");
        reckons(TEN_59 + " 9*Z", "60");
        fails("9" + NINES_30 + " " + NINES_30 + " ", "*", MacroReckoner.SIZE);
        fails(TEN_59 + " 10 ", "*", MacroReckoner.SIZE);
        fails(TEN_59 + " _10 ", "*", MacroReckoner.SIZE);
        fails(NINES_60 + "d", "*", MacroReckoner.SIZE);
        // The exact product has 80 digits, but its size counts only when it is cut.
        reckons(NINES_30 + "." + NINES_30 + " .00000000000000000001*", "9999999999." + NINES_30);
        // Twenty digits and forty behind the point fit, though the exact product has a scale of 80.
        reckons("40k" + NINES_20 + "." + ZEROS_39 + "0 1." + ZEROS_40 + "*", NINES_20 + "." + ZEROS_40);
        fails("40k" + NINES_20 + "." + ZEROS_40 + " 10." + ZEROS_40 + " ", "*", MacroReckoner.SIZE);
    }

    private static void quotients() {
        Desk.says("/ (x y): the quotient cut to the scale K (it has that scale always)");
        reckons("7 2/", "3");
        reckons("2k7 2/", "3.50");
        reckons("2k_7 3/", "-2.33");
        reckons("2k7 _3/", "-2.33");
        reckons("2k_7 _3/", "2.33");
        reckons("_1 2/", "0");
        reckons("1.239 1/", "1");
        reckons("1k1.239 1/", "1.2");
        reckons("6k1.239 1/", "1.239000");
        reckons("3k0 5/X", "3");
        reckons("0.0 5/X", "0");
        reckons("5.55 5.55/X", "0");
        reckons("40k1 1/X", "40");
        reckons("5 .001/", "5000");
        reckons("40k1 7/", ".1428571428571428571428571428571428571428");
        reckons("1000000000000000000000 1000000001/", "999999999000");
        reckons("." + NINES_40 + " " + NINES_60 + "/", "0");
        reckons(NINES_60 + " 1/", NINES_60);
        reckons(NINES_60 + "d/", "1");
        reckons("1k" + NINES_59 + " 1/", NINES_59 + ".0");
        reckons("40k" + NINES_20 + " 1/", NINES_20 + "." + ZEROS_40);
        fails("1k" + NINES_60 + " 1 ", "/", MacroReckoner.SIZE);
        fails("40k" + TEN_20 + " 1 ", "/", MacroReckoner.SIZE);
        fails(TEN_59 + " .1 ", "/", MacroReckoner.SIZE);
        fails("40k" + TEN_59 + " " + LEAST + " ", "/", MacroReckoner.SIZE);
        reckons("1" + ZEROS_40 + " ." + Desk.times("0", 18) + "1/Z", "60");
        fails("1" + ZEROS_40 + " ." + Desk.times("0", 19) + "1 ", "/", MacroReckoner.SIZE);
    }

    private static void quotientsByZero() {
        Desk.says("y = 0: ZERO.");
        for (String command : new String[] {"/", "%"}) {
            fails("1 0 ", command, MacroReckoner.ZERO);
            fails("1 0.00 ", command, MacroReckoner.ZERO);
            fails("1 _0 ", command, MacroReckoner.ZERO);
            fails("0 0 ", command, MacroReckoner.ZERO);
            fails("_2.5 0." + ZEROS_40 + " ", command, MacroReckoner.ZERO);
            // A number that was cut to 0 is 0.
            fails("1 _.1 .1*", command, MacroReckoner.ZERO);
        }
        reckons("1 " + LEAST + "/", "1" + ZEROS_40);
        reckons("0 _1/", "0");
    }

    private static void remainders() {
        Desk.says("% (x y): x - q * y, exact, q being that quotient, with the greater of x's scale and K plus y's"
            + " scale; y = 0: ZERO.");
        reckons("7 3%", "1");
        reckons("_7 3%", "-1");
        reckons("7 _3%", "1");
        reckons("_7 _3%", "-1");
        reckons("6 3%", "0");
        reckons("2 3%", "2");
        reckons("2k7 3%", ".01");
        reckons("1.25 .5%", ".25");
        reckons("1k1.25 .5%X", "2");
        reckons("2k1.25 .5%X", "3");
        reckons("2k6 3%X", "2");
        reckons("6.000 3%X", "3");
        reckons("6 3.00%X", "2");
        reckons("1.500 2%", "1.500");
        reckons("5.678 1%", ".678");
        reckons("1k5.678 1%", ".078");
        reckons("3k5.678 1%X", "3");
        reckons("4k5.678 1%X", "4");
        reckons(NINES_60 + " " + TEN_59 + "%", NINES_59);
        // The quotient has 100 digits, but only what is left over is a result.
        reckons("40k" + NINES_60 + " 8%X", "40");
        reckons("40k" + NINES_60 + " 8%", "0");
    }

    private static void remaindersOfScale40() {
        Desk.says("Where the scale would be above 40: SIZE.");
        reckons("39k1 3%X", "39");
        reckons("40k1 3%", LEAST);
        reckons("39k1 .3%", LEAST);
        reckons("1 3." + ZEROS_40 + "%X", "40");
        reckons("1." + ZEROS_40 + " 3%X", "40");
        reckons("40k1." + ZEROS_40 + " 3%X", "40");
        fails("40k1 .3 ", "%", MacroReckoner.SIZE);
        fails("39k1 .03 ", "%", MacroReckoner.SIZE);
        fails("1k1 3." + ZEROS_40 + " ", "%", MacroReckoner.SIZE);
        fails("40k0 3.0 ", "%", MacroReckoner.SIZE);
        fails("40k1." + ZEROS_40 + " 3." + ZEROS_40 + " ", "%", MacroReckoner.SIZE);
    }

    private static void hardDivisions() {
        // Dividends at which a guess from the first digits is one or two too great.
        String[][] rows = {
            {"61728394500000000000000000123456788", "500000000000000000000000001", "123456788",
                "500000000000000000000000000"},
            {"61728394500000000000000000123456784", "500000000000000000000000001", "123456788",
                "499999999999999999999999996"},
            {"2962962963000000006913580246", "3000000000000000007", "987654320", "3000000000000000006"},
            {"500000000749999998500000000", "500000000999999999", "999999999", "250000000499999999"},
            {"500000000999999998999999999", "500000000999999999", "999999999", "500000000999999998"},
            {"500000000499999998000000000", "500000000999999999", "999999998", "500000000999999998"},
            {"499999999499999996000000003", "500000000999999999", "999999997", "0"},
            {"499999999499999996000000002", "500000000999999999", "999999996", "500000000999999998"},
            {"1499999996998695730502608541998695730", "999999998000000001", "1499999999998695729", "1"},
            {"273979429500000000797958859000000000500000000", "500000000000000001",
                "547958859000000000500000000", "0"},
            {"999999997500000000500000002999999996999999997", "999999998499999999",
                "999999999000000000000000001", "999999998499999998"},
        };
        for (String[] row : rows) {
            reckons(row[0] + " " + row[1] + "/", row[2]);
            reckons(row[0] + " " + row[1] + "%", row[3]);
        }
    }

    private static void exponents() {
        Desk.says("^ (x y): y must have scale 0 and be -99 .. 99, else RANGE.");
        for (int y = -99; y <= 99; y++) {
            String numeral = y < 0 ? "_" + -y : "" + y;
            reckons("1 " + numeral + "^", "1");
            reckons("_1 " + numeral + "^", y % 2 == 0 ? "1" : "-1");
        }
        reckons("3 2.^", "9");
        reckons("3 _0^", "1");
        for (String y : new String[] {"100", "_100", "101", "198", "2.0", "0.0", "_1.0", ".5", "99.0", "99.5", "1000",
            "256", "4294967297", "1000000000", "1000000002", "_1000000001", "1000000000000000001", NINES_60}) {
            fails("1 " + y + " ", "^", MacroReckoner.RANGE);
            fails("0 " + y + " ", "^", MacroReckoner.RANGE);
        }
    }

    private static void powers() {
        Desk.says("With y not below 0: x to the power y, exact, with y times the scale of x, cut to the greater of K"
            + " and x's scale (if that is less); x to the power 0 is 1, scale 0.");
        reckons("2 10^", "1024");
        reckons("_2 3^", "-8");
        reckons("_2 2^", "4");
        reckons("1.5 2^", "2.2");
        reckons("1k1.5 2^", "2.2");
        reckons("2k1.5 2^", "2.25");
        reckons("3k1.5 2^", "2.25");
        reckons("40k1.5 2^", "2.25");
        reckons("1.50 1^", "1.50");
        reckons("9k1.50 1^", "1.50");
        reckons("0 99^", "0");
        reckons("0.00 5^X", "2");
        reckons("5k0.00 2^X", "4");
        reckons(".9 2^", ".8");
        reckons("_.1 3^X", "1");
        for (String x : new String[] {"0", "0.00", "1", "_1", "2.55", "_2.55", LEAST, NINES_60, "_" + NINES_60}) {
            reckons("7k" + x + " 0^dXn", "01");
        }
        reckons(NINES_60 + " 1^", NINES_60);
        reckons(LEAST + " 1^", LEAST);
        reckons("40k" + LEAST + " 2^X", "40");
        reckons("10 59^", TEN_59);
        fails("10 60 ", "^", MacroReckoner.SIZE);
        reckons("9 62^Z", "60");
        fails("9 63 ", "^", MacroReckoner.SIZE);
        fails("_9 63 ", "^", MacroReckoner.SIZE);
        reckons("9.9 59^Z", "60");
        fails("9.9 60 ", "^", MacroReckoner.SIZE);
    }

    private static void powersBelowZero() {
        Desk.says("With y below 0: 1 divided by the exact power with -y, as with / ; x = 0: ZERO.");
        reckons("3k2 _2^", ".250");
        reckons("2 _1^", "0");
        reckons("5k2 _1^", ".50000");
        reckons("1.00 _1^X", "0");
        reckons("6k1.5 _3^", ".296296");
        reckons("6k_1.5 _3^", "-.296296");
        reckons("4k_1 _2^", "1.0000");
        // The exact power is divided by, not the one that is cut: 1 / 1.21, not 1 / 1.2.
        reckons("1k1.1 _2^", ".8");
        reckons("40k7 _5^", ".0000594990182661986077229725709525792824");
        reckons(".1 _59^", TEN_59);
        fails(".1 _60 ", "^", MacroReckoner.SIZE);
        reckons("19k.1 _40^Z", "60");
        fails("20k.1 _40 ", "^", MacroReckoner.SIZE);
        for (String zero : new String[] {"0 ", "_0 ", "0.0 ", "0." + ZEROS_40 + " "}) {
            for (String y : new String[] {"_1 ", "_2 ", "_99 "}) {
                fails(zero + y, "^", MacroReckoner.ZERO);
            }
        }
        reckons(LEAST + " _1^", "1" + ZEROS_40);
    }

    private static void exactPowers() {
        Desk.says("SIZE if the exact power's size, or its scale, is above 200.");
        // Size 199 and scale 198; size 200 and scale 200; size 201 and scale 200.
        reckons("1.00 99^", "1.00");
        reckons("0.99999 40^", ".99960");
        fails("1.00000 40 ", "^", MacroReckoner.SIZE);
        fails("_1.00000 40 ", "^", MacroReckoner.SIZE);
        reckons("1.00000 39^", "1.00000");
        // Size 200 and scale 150, then size 204 and scale 153.
        reckons("9.999 50^Z", "53");
        fails("9.999 51 ", "^", MacroReckoner.SIZE);
        // Size 1 and the scales 198, 200, 201, 205 and 240.
        reckons(".01 99^X", "2");
        reckons(".001 66^X", "3");
        reckons(".00001 40^X", "5");
        reckons(LEAST + " 5^X", "40");
        fails(".001 67 ", "^", MacroReckoner.SIZE);
        fails(".00001 41 ", "^", MacroReckoner.SIZE);
        fails(LEAST + " 6 ", "^", MacroReckoner.SIZE);
        // 0 has the size 0, but a scale.
        reckons("0.00000 40^X", "5");
        fails("0.00000 41 ", "^", MacroReckoner.SIZE);
        fails(NINES_60 + " 99 ", "^", MacroReckoner.SIZE);
        // As great below 0.
        reckons("8k0.99999 _40^", "1.00040008");
        reckons("8k1.00 _99^", "1.00000000");
        fails("8k1.00000 _40 ", "^", MacroReckoner.SIZE);
        fails("8k.00001 _41 ", "^", MacroReckoner.SIZE);
        fails(NINES_60 + " _4 ", "^", MacroReckoner.SIZE);
        reckons(NINES_60 + " _3^", "0");
    }

    private static void roots() {
        Desk.says("v (x): the greatest number that is not above the square root of x with the greater of K and x's"
            + " scale; x below 0: ROOT.");
        reckons("0v", "0");
        reckons("_0v", "0");
        reckons("3k0.0vX", "3");
        reckons("0.0000vX", "4");
        reckons("1v", "1");
        reckons("2v", "1");
        reckons("3v", "1");
        reckons("4v", "2");
        reckons("15v", "3");
        reckons("16v", "4");
        reckons("17v", "4");
        reckons("2k3v", "1.73");
        reckons("2.00v", "1.41");
        reckons("1k2.00v", "1.41");
        reckons("3k2.00v", "1.414");
        reckons(".09v", ".30");
        reckons(".9v", ".9");
        reckons(".08v", ".28");
        reckons("999999999999999999v", "999999999");
        reckons("1000000000000000000v", "1000000000");
        reckons("999999998000000000v", "999999998");
        reckons("999999998000000001v", "999999999");
        reckons("40k2v", "1.4142135623730950488016887242096980785696");
        reckons(LEAST + "v", "." + Desk.times("0", 19) + "1" + Desk.times("0", 20));
        for (String below : new String[] {"_1", "_.01", "_" + LEAST, "_" + NINES_60}) {
            fails(below + " ", "v", MacroReckoner.ROOT);
        }
    }

    private static void rootsOfSize60() {
        reckons(NINES_60 + "v", NINES_30);
        reckons("30k" + NINES_60 + "vZ", "60");
        fails("31k" + NINES_60 + " ", "v", MacroReckoner.SIZE);
        reckons("40k1" + ZEROS_39 + "vZ", "60");
        reckons("40k" + NINES_40 + "vZ", "60");
        fails("40k1" + ZEROS_40 + " ", "v", MacroReckoner.SIZE);
    }

    private static void scaleToBeWorkedWith() {
        Desk.says("K, 0 .. 40, is the scale to be worked with, at first 0.");
        new Desk().scale(0).does("KdXn n").paper("00");
        new Desk().does("1 3/p0k1 3/p1k1 3/p").paper("0\n0\n.3\n");
        new Desk().does("39k1 3/p40k1 3/p").paper("." + Desk.times("3", 39) + "\n." + Desk.times("3", 40) + "\n");
        fails("41 ", "k", MacroReckoner.RANGE);
        fails("_1 ", "k", MacroReckoner.RANGE);
        Desk.says("K: the number K. k (x): K becomes x, which must have scale 0 and be 0 .. 40, else RANGE.");
        for (int k = 0; k <= 40; k++) {
            new Desk().does("7k" + k + "k").scale(k).depth(0).does("KXn Kn").paper("0" + k);
        }
        new Desk().does("7k_0k").scale(0).does("40.k").scale(40).does("007k").scale(7);
        for (String wrong : new String[] {"41", "42", "_1", "_40", "100", "1.0", "0.0", "40.0", ".5", "256", "4294967296",
            "1000000000", "1000000007", "1000000000000000040", NINES_60, LEAST}) {
            fails("7k" + wrong + " ", "k", MacroReckoner.RANGE);
        }
    }

    /** Rows are used again: what a long number left behind must not show in a short one's result. */
    private static void afterLongNumbers() {
        Desk.says("A NUMBER is a whole number W, of either sign, with a SCALE s, 0 .. 40: it stands for W / 10^s.");
        String[][] rows = {
            {"3 4+", "7"}, {"4 3-", "1"}, {"3 4-", "-1"}, {"1000000000 1-", "999999999"},
            {"1000000000000000000 1+", "1000000000000000001"}, {"1 1000000000000000000+", "1000000000000000001"},
            {"1000000000000000000 1-", "999999999999999999"}, {"3 1000000007*", "3000000021"},
            {"1000000007 3*", "3000000021"}, {"3 4*", "12"}, {"7 2/", "3"}, {"7 2%", "1"},
            {"1000000000000000000 7/", "142857142857142857"}, {"1000000000000000000 7%", "1"},
            {"1000000000000000000000 1000000001/", "999999999000"}, {"2 3^", "8"}, {"2 40^", "1099511627776"},
            {"0v", "0"}, {"0.00v", "0"}, {"16v", "4"}, {"2 _1^", "0"}, {".0000000000000001", ".0000000000000001"},
            {"0.00000000005 1*", ".00000000005"}, {"1.5 1.5*", "2.2"}, {"1 3." + ZEROS_39 + "-", "-2." + ZEROS_39},
        };
        String[] before = {
            NINES_60 + "d " + NINES_60 + " c", NINES_60 + "d/c " + NINES_60 + " 7%c", NINES_60 + "vc",
            NINES_30 + "d*c " + NINES_30 + " 1+c", "0.99999 40^c", "9.999 50^c",
            NINES_60 + " " + NINES_30 + "/c" + NINES_60 + " " + NINES_30 + "%c", NINES_60 + " 1-c",
        };
        for (String left : before) {
            for (String[] row : rows) {
                new Desk().does(left + " ").does(row[0] + "n").depth(0).paper(row[1]);
            }
        }
        // What a new register holds is 0, not something just below it.
        new Desk().does("[[same]n]sb0la=bla0=blav0=b").paper("samesamesame");
        for (char r = 'a'; r <= 'z'; r++) {
            new Desk().does("l" + r + "vn").paper("0");
        }
    }
}
