import java.util.NoSuchElementException;

/** Each sentence of the document that names a boundary, in the document's order, with a test of its own. */
public final class EdgeTests {
    private static final long NSE = -1001;
    private static final long IAE = -1002;
    private static final int LOWEST = Integer.MIN_VALUE;
    private static final int HIGHEST = Integer.MAX_VALUE;
    private static final String THREE = "person 2 3;person 1 8;person 0 3;joke 3 10;joke 7 12;joke 0 5;"
        + "street 0 1;street 1 2;jug 9;drink 4;";
    private static final String SEVEN = "person 3 0;".repeat(7);
    private static String sentence = "";
    private static int wrong = 0;

    private interface Call {
        long answer();
    }

    private interface Asked {
        long answer(DimpleWells x, int n);
    }

    private interface Reader {
        int read(DimpleWells x, String text);
    }

    private static void sentence(String text) {
        sentence = text;
    }

    private static long of(Call call) {
        try {
            return call.answer();
        } catch (NoSuchElementException e) {
            return NSE;
        } catch (IllegalArgumentException e) {
            return e.getClass() == IllegalArgumentException.class ? IAE : IAE - 1;
        }
    }

    private static void due(String what, long want, Call call) {
        String got;
        try {
            got = String.valueOf(of(call));
        } catch (RuntimeException e) {
            got = e.toString();
        }
        if (!got.equals(String.valueOf(want))) {
            wrong++;
            System.out.println("\"" + sentence + "\": " + what + " answered " + got + ", due is " + want);
        }
    }

    private static void same(String what, String want, String got) {
        due(what + " (" + want + " and " + got + ")", 1, () -> want.equals(got) ? 1 : 0);
    }

    private static int put(DimpleWells x, String text) {
        int[] n = new int[(text.length() + 19) / 20 * 5];
        for (int i = 0; i < n.length * 4; i++) {
            n[i / 4] = n[i / 4] << 8 | (i < text.length() ? text.charAt(i) & 255 : 0);
        }
        for (int i = 0; i < n.length; i += 5) {
            x.feed(n[i], n[i + 1], n[i + 2], n[i + 3], n[i + 4]);
        }
        return text.length();
    }

    private static int land(DimpleWells x, String text) {
        return x.land(put(x, text));
    }

    private static int law(DimpleWells x, String text) {
        return x.law(put(x, text));
    }

    private static int work(DimpleWells x, String text) {
        return x.work(put(x, text));
    }

    private static int book(DimpleWells x, String text) {
        return x.book(put(x, text));
    }

    private static DimpleWells in(String land, String... works) {
        DimpleWells x = new DimpleWells();
        due("the land " + land, 1, () -> land(x, land) >= 0 ? 1 : 0);
        for (String work : works) {
            due("the work " + work, 1, () -> work(x, work) >= 0 ? 1 : 0);
        }
        return x;
    }

    private static DimpleWells under(String law, String land, String... works) {
        DimpleWells x = in(land);
        due("the law " + law, 1, () -> law(x, law));
        for (String work : works) {
            due("the work " + work, 1, () -> work(x, work) >= 0 ? 1 : 0);
        }
        return x;
    }

    /** A land on a DAY from 0 to 400, with what it was told until then. */
    private static DimpleWells onDay(int day, String land) {
        DimpleWells x = in(land);
        int left = day;
        for (int part = 180; part >= 1; part = part == 180 ? 60 : part == 60 ? 1 : 0) {
            for (; left >= part; left -= part) {
                String work = part == 180 ? "again 60[day;day;day;];" : part == 60 ? "again 60[day;];" : "day;";
                if (part == 1) {
                    work = "again " + left + "[day;];";
                    left = 1;
                }
                work(x, work);
            }
        }
        due("the day", day, () -> x.told(3));
        return x;
    }

    /** All that can be seen of an object, but for how many calls were refused. */
    private static String picture(DimpleWells x) {
        StringBuilder s = new StringBuilder();
        for (int what = 0; what < 12; what++) {
            s.append(x.told(what)).append(' ');
        }
        for (int person = 0; person < x.told(0); person++) {
            for (int what = 0; what < 8; what++) {
                s.append(x.person(person, what)).append(' ');
            }
            s.append(x.fits(person, 0)).append(' ').append(x.fits(person, 1)).append(' ');
            for (int joke = 0; joke < x.told(1); joke++) {
                s.append(x.worn(joke, person)).append(' ').append(x.laugh(joke, person)).append(' ');
            }
        }
        for (int joke = 0; joke < x.told(1); joke++) {
            s.append(x.joke(joke, 0)).append(' ').append(x.joke(joke, 1)).append(' ').append(x.joke(joke, 2)).append(' ');
        }
        for (int street = 0; street < x.told(2); street++) {
            s.append(x.street(street, 0)).append(' ').append(x.street(street, 1)).append(' ');
        }
        s.append(x.count(0)).append(' ').append(x.count(1)).append(' ').append(x.count(2));
        return s.toString();
    }

    private static void refused(String what, long kind, DimpleWells x, Call call) {
        String before = picture(x) + " " + x.fault();
        int noSuch = x.status(0);
        int others = x.status(1);
        due(what, kind, call);
        same("behind " + what, before, picture(x) + " " + x.fault());
        due("no such ones counted by " + what, noSuch + (kind == NSE ? 1 : 0), () -> x.status(0));
        due("wrong ones counted by " + what, others + (kind == IAE ? 1 : 0), () -> x.status(1));
    }

    private static void fine(String what, DimpleWells x, Call call) {
        String before = picture(x) + " " + x.fault();
        int refusals = x.status(0) + x.status(1);
        due(what + " is answered", 1, () -> of(call) > NSE ? 1 : 0);
        same("asked " + what, before, picture(x) + " " + x.fault());
        due(what + " is not counted", refusals, () -> x.status(0) + x.status(1));
    }

    /** A land in which much has gone on, so that no kind of state is as at first. */
    private static DimpleWells busy() {
        DimpleWells x = under("strong - apart - worn - grief - person", THREE);
        due("the book", 1, () -> book(x, "1 3;"));
        due("the image", 1, x::image);
        due("the work", 5, () -> work(x, "tell 0 0;tell 1 0;grieve 1 2;pour 1;day;tell 0 1;"));
        return x;
    }

    /** What is asked with a number from least to most is answered; with any other it is refused. */
    private static void range(String what, long kind, int least, int most, Asked asked) {
        for (int n : new int[] {least, most}) {
            DimpleWells x = busy();
            fine(what + " " + n, x, () -> asked.answer(x, n));
        }
        for (int n : new int[] {least - 1, most + 1, LOWEST, HIGHEST}) {
            DimpleWells x = busy();
            x.feed(1, 2, 3, 4, 5);
            refused(what + " " + n, kind, x, () -> asked.answer(x, n));
        }
    }

    private static void fault(Reader reader, String text, int kind, int place) {
        DimpleWells x = busy();
        String before = picture(x);
        due(text, kind - 10, () -> reader.read(x, text));
        due("the place in " + text, place, x::fault);
        due("the tape behind " + text, 0, () -> x.count(1));
        same("behind " + text, before, picture(x));
        due("nothing was refused by " + text, 0, () -> x.status(0) + x.status(1));
    }

    private static void faultInLand(String text, int kind, int place) {
        fault(EdgeTests::land, text, kind, place);
    }

    private static void faultInLaw(String text, int kind, int place) {
        fault(EdgeTests::law, text, kind, place);
    }

    private static void faultInWork(String text, int kind, int place) {
        fault(EdgeTests::work, text, kind, place);
    }

    private static void faultInBook(String text, int kind, int place) {
        fault(EdgeTests::book, text, kind, place);
    }

    /** Between these a number from least to most may stand, and none beside them. */
    private static void numbers(Reader reader, String ahead, int least, int most, String behind) {
        for (int n : new int[] {least, least + 1, most - 1, most}) {
            DimpleWells x = in(THREE);
            String text = ahead + n + behind;
            due(text, 1, () -> reader.read(x, text) >= 0 ? 1 : 0);
            due("no fault in " + text, -1, x::fault);
        }
        if (least > 0) {
            fault(reader, ahead + (least - 1) + behind, 2, ahead.length());
        }
        fault(reader, ahead + (most + 1) + behind, 2, ahead.length());
        fault(reader, ahead + most + "0" + behind, 2, ahead.length());
        fault(reader, ahead + "4294967297" + behind, 2, ahead.length());
        fault(reader, ahead + "18446744073709551617" + behind, 2, ahead.length());
        fault(reader, ahead + "-1" + behind, 1, ahead.length());
        due("leading noughts in " + ahead + behind, 1, () -> reader.read(in(THREE), ahead + "0000000000000" + least + behind) >= 0 ? 1 : 0);
        due("leading noughts in " + ahead + behind, -8, () -> reader.read(in(THREE), ahead + "0000000000" + (most + 1) + behind));
    }

    // ---- Terms: the LAND

    private static void theLand() {
        Reader reader = EdgeTests::land;
        sentence("A LAND is a text of up to 600 bytes");
        String full = "person 3 9;" + " ".repeat(582) + "jug 50;";
        DimpleWells x = in("");
        due("600 bytes", 1, () -> land(x, full));
        due("600 bytes are read", 50, () -> x.told(4));
        due("600 bytes without the last", -9, () -> land(x, full.substring(0, 599) + " "));
        due("its place", 600, x::fault);
        due("of no bytes", 0, () -> x.land(0));
        due("of no bytes", 20, () -> x.told(4));
        due("of blanks", 0, () -> land(x, "   "));

        sentence("{ CLAUSE \";\" }, at most 60");
        due("59", 0, () -> land(x, "jug 9;".repeat(59)));
        due("60", 0, () -> land(x, "jug 9;".repeat(59) + "drink 7;"));
        due("the 60th counts", 7, () -> x.told(5));
        due("60, and blanks", 0, () -> land(x, "jug 9;".repeat(60) + "  "));
        faultInLand("jug 9;".repeat(60) + " drink 7;", 3, 361);
        faultInLand("jug 9;".repeat(60) + "drink x", 3, 360);
        faultInLand("jug 9;".repeat(60) + "drinks 7;", 1, 360);
        faultInLand("jug 9;".repeat(60) + ";", 1, 360);
        faultInLand("jug 9;".repeat(60) + "9", 1, 360);

        sentence("PERSONS, numbered from 0 on, 7 at most");
        DimpleWells seven = in("person 0 1;person 1 2;person 2 3;person 3 4;person 0 5;person 1 6;person 2 7;");
        due("seven", 7, () -> seven.told(0));
        for (int i = 0; i < 7; i++) {
            int person = i;
            due("T of " + i, i + 1, () -> seven.person(person, 1));
            due("D of " + i, i % 4, () -> seven.person(person, 0));
        }
        faultInLand("person 0 0;".repeat(7) + "person 0 0;", 3, 77);
        faultInLand("person 0 0;".repeat(7) + "jug 1; person 9 9", 3, 84);

        sentence("DIMPLES D, 0 to 3, TASTE T, 0 to 9");
        numbers(reader, "person ", 0, 3, " 1;");
        numbers(reader, "person 1 ", 0, 9, ";");

        sentence("JOKES likewise, 6");
        DimpleWells six = in("joke 9 1;joke 8 2;joke 7 3;joke 6 4;joke 5 5;joke 4 6;");
        due("six", 6, () -> six.told(1));
        for (int i = 0; i < 6; i++) {
            int joke = i;
            due("K of " + i, 9 - i, () -> six.joke(joke, 0));
            due("S of " + i, i + 1, () -> six.joke(joke, 1));
        }
        faultInLand("joke 0 1;".repeat(6) + "joke 0 1;", 3, 54);

        sentence("KIND K, 0 to 9, STRONG S, 1 to 20");
        numbers(reader, "joke ", 0, 9, " 1;");
        numbers(reader, "joke 1 ", 1, 20, ";");

        sentence("STREETS likewise, 12");
        String twelve = "street 0 1;street 0 2;street 0 3;street 0 4;street 0 5;street 0 6;"
            + "street 1 2;street 1 3;street 1 4;street 1 5;street 1 6;street 6 5;";
        DimpleWells towns = in(SEVEN + twelve);
        due("twelve", 12, () -> towns.told(2));
        due("the last", 65, () -> 10 * towns.street(11, 0) + towns.street(11, 1));
        faultInLand(SEVEN + twelve + "street 2 3;", 3, 209);
        faultInLand(SEVEN + twelve + "street 0 0;", 3, 209);
    }

    private static void theStreets() {
        sentence("between PERSONS A and B, both told ahead");
        String two = "person 1 1;person 1 1;";
        faultInLand("street 0 1;" + two, 2, 7);
        faultInLand("person 1 1;street 0 1;person 1 1;", 2, 20);
        faultInLand("person 1 1;street 1 0;person 1 1;", 2, 18);
        faultInLand(two + "street 2 0;", 2, 29);
        faultInLand(two + "street 0 2;", 2, 31);
        due("the last two of seven", 7, () -> land(in(""), SEVEN + "street 6 5;"));
        faultInLand(SEVEN + "street 6 7;", 2, 86);

        sentence("not one, not two that a STREET is between");
        faultInLand(two + "street 1 1;", 2, 31);
        faultInLand(two + "street 0 0;", 2, 31);
        faultInLand(two + "street 0 1;street 0 1;", 2, 42);
        faultInLand(two + "street 0 1; street  1  00;", 2, 45);
        due("others of the same person", 3, () -> land(in(""), two + "person 1 1;street 0 1;street 2 0;street 2 1;"));

        Reader reader = EdgeTests::land;
        sentence("\"jug\" N (0 to 200; 20 without; the last counts)");
        numbers(reader, "jug ", 0, 200, ";");
        due("without", 20, () -> in("person 1 1;").told(4));
        due("0", 0, () -> in("jug 0;").told(4));
        due("200", 200, () -> in("jug 200;").told(4));
        due("the last", 3, () -> in("jug 200;drink 1;jug 0;jug 3;").told(4));
        sentence("\"drink\" N (0 to 9; 2 without; the last counts)");
        numbers(reader, "drink ", 0, 9, ";");
        due("without", 2, () -> in("person 1 1;").told(5));
        due("0", 0, () -> in("drink 0;").told(5));
        due("9", 9, () -> in("drink 9;").told(5));
        due("the last", 3, () -> in("drink 9;jug 1;drink 0;drink 3;").told(5));
        DimpleWells x = in("jug 7;drink 7;");
        due("without, behind another land", 0, () -> land(x, ""));
        due("without, behind another land", 22, () -> x.told(4) + x.told(5));
    }

    // ---- Terms: the LAW

    private static long value(String law) {
        DimpleWells x = new DimpleWells();
        return law(x, law) == 1 ? x.would(13, 5, 7, 11, 3, 9, 6, 17, 19, 4) : -100;
    }

    private static void theLaw() {
        sentence("A LAW is a text of up to 150 bytes");
        String full = "0" + "+1".repeat(26) + "+0".repeat(46) + "+   1";
        due("its length", 150, full::length);
        due("150 bytes", 27, () -> value(full));
        due("149 bytes", 26, () -> value("1" + "+1".repeat(25) + "+0".repeat(49)));
        due("as many signs as can stand", 9, () -> value("9" + "*1".repeat(74) + " "));

        sentence("E, at the end nothing more");
        faultInLaw("1;", 1, 1);
        faultInLaw("strong strong", 1, 7);
        faultInLaw("(1) 2", 1, 4);
        faultInLaw("1]", 1, 1);
        faultInLaw("1,1", 1, 1);
        faultInLaw("", 1, 0);
        faultInLaw("   ", 1, 3);

        sentence("without: strong - apart * 2 - worn * 3 - grief");
        DimpleWells x = new DimpleWells();
        due("strong", 20, () -> x.would(20, 0, 0, 9, 3, 0, 6, 9, 9, 6));
        due("apart", 2, () -> x.would(20, 9, 0, 0, 0, 0, 0, 0, 0, 0));
        due("worn", 2, () -> x.would(20, 0, 6, 0, 0, 0, 0, 0, 0, 0));
        due("grief", 11, () -> x.would(20, 0, 0, 0, 0, 9, 0, 0, 0, 0));

        sentence("LAUGH: what comes out, 0 at least, 40 at most");
        due("39", 39, () -> value("39"));
        due("40", 40, () -> value("40"));
        due("41", 40, () -> value("41"));
        due("999 by 999", 40, () -> value("999*999"));
        due("1", 1, () -> value("1"));
        due("0", 0, () -> value("0"));
        due("-1", 0, () -> value("0-1"));
        due("the highest", 40, () -> value("512*512*512*16-1"));
        due("the lowest", 0, () -> value("512*512*512*16"));

        sentence("N (0 to 999)");
        numbers(EdgeTests::law, "strong + ", 0, 999, "");
        due("999", 9, () -> value("999 - 990"));

        sentence("least [ E , E ], most [ E , E ]");
        due("least", 3, () -> value("least[3,4]"));
        due("least", 3, () -> value("least[4,3]"));
        due("alike", 4, () -> value("least[4,4]"));
        due("most", 4, () -> value("most[3,4]"));
        due("most", 4, () -> value("most[4,3]"));
        due("far apart", 40, () -> value("most[512*512*512*16,512*512*512*16-1]"));
        due("far apart", 0, () -> value("least[512*512*512*16-1,512*512*512*16]"));
        faultInLaw("least[1]", 1, 7);
        faultInLaw("most[1,2,3]", 1, 8);
        faultInLaw("least[,1]", 1, 6);
        faultInLaw("least 1,2", 1, 6);
        faultInLaw("most[1,]", 1, 7);
        faultInLaw("()", 1, 1);
    }

    private static void theValues() {
        String lowest = "(512*512*512*16)";
        sentence("Values are whole numbers of 32 bits that wrap");
        due("beyond the highest", 1, () -> value("(" + lowest + "-1)+1 - " + lowest + "+1"));
        due("beyond the highest it is below 0", 0, () -> value("(" + lowest + "-1)+1"));
        due("below the lowest it is above 0", 40, () -> value(lowest + "-1"));
        due("2 to 32 is 0", 5, () -> value("256*256*256*256+5"));
        due("46341 by itself is below 0", 0, () -> value("(46*999+387)*(46*999+387)"));
        due("the lowest, turned round", 0, () -> value("0-" + lowest));

        sentence("/ cuts");
        due("7 by 2", 3, () -> value("7/2"));
        due("-7 by 2", 7, () -> value("(0-7)/2+10"));
        due("7 by -2", 7, () -> value("7/(0-2)+10"));
        due("-7 by -2", 3, () -> value("(0-7)/(0-2)"));
        due("the lowest by -1 wraps", 0, () -> value(lowest + "/(0-1)"));
        due("the lowest by -1 is the lowest", 3, () -> value(lowest + "/(0-1)-" + lowest + "+3"));

        sentence("% leaves (with the sign of what is divided)");
        due("7 of 4", 3, () -> value("7%4"));
        due("-7 of 4", 7, () -> value("(0-7)%4+10"));
        due("7 of -4", 13, () -> value("7%(0-4)+10"));
        due("-7 of -4", 7, () -> value("(0-7)%(0-4)+10"));
        due("8 of 4", 0, () -> value("8%4"));
        due("the lowest of -1", 6, () -> value(lowest + "%(0-1)+6"));

        sentence("by 0 both are 0");
        due("/", 5, () -> value("9/0+5"));
        due("%", 5, () -> value("9%0+5"));
        due("/ by what is 0", 5, () -> value("9/(strong-13)+5"));
        due("% by what is 0", 5, () -> value("(0-9)%(strong-13)+5"));
        due("0 by 0", 5, () -> value("0/0+0%0+5"));
        due("then times", 0, () -> value("9/0*7"));

        sentence("E: T { + or - T }. T: U { * or / or % U }");
        due("from the left", 3, () -> value("9-4-2"));
        due("from the left", 2, () -> value("12/3/2"));
        due("from the left", 2, () -> value("17%10%5"));
        due("from the left", 8, () -> value("9/2*2"));
        due("from the left", 1, () -> value("2*8%5"));
        due("* ahead of +", 14, () -> value("2+3*4"));
        due("* ahead of -", 8, () -> value("20-3*4"));
        due("brackets", 20, () -> value("(2+3)*4"));
        faultInLaw("+1", 1, 0);
        faultInLaw("1+-1", 1, 2);
        faultInLaw("1**2", 1, 2);
        faultInLaw("2 % ", 1, 4);
    }

    private static void theNames() {
        sentence("\"strong\" (S), \"apart\" (how far T and K are apart)");
        DimpleWells x = under("apart", "person 1 0;person 1 9;joke 9 1;joke 0 20;");
        due("0 and 9", 9, () -> x.laugh(0, 0));
        due("9 and 0", 9, () -> x.laugh(1, 1));
        due("0 and 0", 0, () -> x.laugh(1, 0));
        due("9 and 9", 0, () -> x.laugh(0, 1));
        law(x, "strong");
        due("1", 1, () -> x.laugh(0, 0));
        due("20", 20, () -> x.laugh(1, 0));

        sentence("\"worn\" (how often that PERSON was told it by now), \"told\" (how often all were)");
        DimpleWells y = under("worn*10+told", "person 1 0;person 1 0;joke 0 1;joke 0 1;");
        due("ahead of any", 0, () -> y.laugh(0, 0));
        work(y, "tell 0 0;tell 0 1;day;tell 0 0;tell 1 1;");
        due("worn 2, told 3", 23, () -> y.laugh(0, 0));
        due("worn 1, told 3", 13, () -> y.laugh(0, 1));
        due("worn 0, told 1", 1, () -> y.laugh(1, 0));
        due("worn 1, told 1", 11, () -> y.laugh(1, 1));

        sentence("\"near\" (PERSONS who grieve to whom a STREET leads)");
        DimpleWells z = under("near", SEVEN + "joke 0 1;street 0 1;street 2 0;street 0 3;street 0 4;street 5 0;street 0 6;");
        work(z, "grieve 0 9;");
        due("oneself is none", 0, () -> z.laugh(0, 0));
        due("a street leads both ways", 1, () -> z.laugh(0, 5));
        work(z, "grieve 1 1;grieve 2 1;grieve 3 1;grieve 4 1;grieve 5 1;grieve 6 1;");
        due("six", 6, () -> z.laugh(0, 0));
        work(z, "day;");
        due("grief went by", 0, () -> z.laugh(0, 0));
        due("not all", 1, () -> z.laugh(0, 1));

        sentence("\"thirst\" (of the PERSON by now), \"day\", \"person\" (the number)");
        DimpleWells t = under("thirst", SEVEN + "joke 0 1;jug 13;");
        work(t, "day;");
        due("who had half", 1, () -> t.laugh(0, 6));
        due("who had all", 0, () -> t.laugh(0, 5));
        law(t, "day");
        due("day", 1, () -> t.laugh(0, 6));
        law(t, "person");
        due("the last", 6, () -> t.laugh(0, 6));
        due("the first", 0, () -> t.laugh(0, 0));
        law(t, "dimples");
        due("dimples", 3, () -> t.laugh(0, 6));
        law(t, "grief");
        work(t, "grieve 6 9;");
        due("grief", 9, () -> t.laugh(0, 6));
    }

    // ---- Terms: WORK, BOOK, signs, FAULTS

    private static void theTexts() {
        sentence("WORK is a text of up to 150 bytes");
        due("150 bytes", 37, () -> work(in(""), "day;".repeat(36) + "  day;"));
        due("150 bytes, blanks at the end", 37, () -> work(in(""), "day;".repeat(37) + "  "));
        due("of no bytes", 0, () -> work(in(""), ""));
        due("of blanks", 0, () -> work(in(""), "  "));

        sentence("\"tell\" J P, \"grieve\" P N (N 1 to 9), \"cheer\" P, \"pour\" N (N 1 to 99)");
        numbers(EdgeTests::work, "tell ", 0, 2, " 0;");
        numbers(EdgeTests::work, "tell 0 ", 0, 2, ";");
        numbers(EdgeTests::work, "grieve ", 0, 2, " 1;");
        numbers(EdgeTests::work, "grieve 1 ", 1, 9, ";");
        numbers(EdgeTests::work, "cheer ", 0, 2, ";");
        numbers(EdgeTests::work, "pour ", 1, 99, ";");
        due("no jokes", -8, () -> work(in(SEVEN), "tell 0 0;"));
        due("no persons", -8, () -> work(in("joke 1 1;"), "tell 0 0;"));
        due("no persons", -8, () -> work(in(""), "cheer 0;"));
        due("no persons", -8, () -> work(in(""), "grieve 0 1;"));

        sentence("\"again\" N \"[\" { STEP \";\" } \"]\" (N 0 to 60)");
        numbers(EdgeTests::work, "again ", 0, 60, "[];");
        due("0 times", 0, () -> work(in(""), "again 0[day;];"));
        due("once", 1, () -> work(in(""), "again 1[day;];"));
        due("60 times", 60, () -> work(in(""), "again 60[day;];"));
        due("of nothing", 0, () -> work(in(""), "again 60[];"));
        faultInWork("again 2[day;]", 1, 13);
        faultInWork("again 2[day];", 1, 11);
        faultInWork("again 2[;];", 1, 8);
        faultInWork("again 2 day;", 1, 8);
        faultInWork("again[day;];", 1, 5);
        faultInWork("];", 1, 0);

        sentence("A BOOK is a text of up to 60 bytes");
        DimpleWells x = in("joke 0 1;".repeat(6));
        due("60 bytes", 6, () -> book(x, "5 40;4 0;3 1;2 2;1 3;0 " + " ".repeat(35) + "4;"));
        due("of no bytes", 0, () -> book(x, ""));
        due("of blanks", 0, () -> book(x, " "));

        sentence("no J twice: at JOKE J one laughed L (0 to 40)");
        numbers(EdgeTests::book, "", 0, 2, " 1;");
        numbers(EdgeTests::book, "0 ", 0, 40, ";");
        faultInBook("0 1;0 1;", 2, 4);
        faultInBook("2 1;1 1; 002 1;", 2, 9);
        faultInBook("2 1;2 99;", 2, 4);
        faultInBook("2 1;2", 2, 4);
        faultInBook("0 1;;", 1, 4);
        faultInBook("0", 1, 1);
        faultInBook("0 0", 1, 3);
        faultInBook(";", 1, 0);
        due("no jokes", -8, () -> book(in(SEVEN), "0 1;"));
    }

    private static void theSigns() {
        sentence("Numbers: digits, as many as stand there; WORDS: small letters, as many as stand there");
        due("without blanks", 1, () -> land(in(""), "person1 1;joke1 1;"));
        faultInLand("person 11;", 2, 7);
        faultInLand("person 1 1 1;", 1, 11);
        faultInLand("jug 1 0;", 1, 6);
        faultInLand("ju g 1;", 1, 0);
        faultInLand("personjoke 1 1;", 1, 0);
        faultInLand("jugs 1;", 1, 0);
        faultInLand("ju 1;", 1, 0);
        faultInLand("Jug 1;", 1, 0);
        faultInLand("jUg 1;", 1, 0);
        faultInLand("jug one;", 1, 4);
        faultInLand("jug 1x;", 1, 5);
        for (char c : new char[] {'/', ':', '`', '{', '@', 'A', 'Z', '[', '_', '.'}) {
            faultInLand("jug" + c + " 1;", 1, 3);
            faultInLand("jug 1" + c + ";", 1, 5);
            faultInLand("jug " + c + "1;", 1, 4);
        }
        faultInLand("jugz 1;", 1, 0);
        faultInLand("ajug 1;", 1, 0);
        faultInLand("jug 1z;", 1, 5);
        faultInLaw("strongapart", 1, 0);
        faultInLaw("2strong", 1, 1);
        faultInLaw("1 000", 1, 2);
        faultInLaw("leas[1,2]", 1, 0);
        faultInLaw("tell", 1, 0);
        faultInWork("dayday;", 1, 0);
        faultInWork("strong;", 1, 0);
        due("many digits", 7, () -> value("0".repeat(149) + "7"));
        due("many digits", -100, () -> value("1" + "0".repeat(149)));

        sentence("blanks (32) may stand ahead of all these, and at the end");
        due("a land", 2, () -> land(in(""), "  person  1  1  ;  person  2  2  ;  street  0  1  ;  jug  5  ;  "));
        due("a law", 13, () -> value("  least  [  strong  ,  (  20  -  1  )  ]  "));
        due("work", 1, () -> work(in(""), "  again  1  [  day  ;  ]  ;  "));
        due("a book", 1, () -> book(in(THREE), "  1  2  ;  "));
        for (char c : new char[] {0, 9, 10, 13, 31, 33, 127, 128, 160, 255}) {
            faultInLand("jug" + c + "1;", 1, 3);
            faultInLand("jug 1;" + c, 1, 6);
            faultInLaw("1" + c, 1, 1);
            faultInWork(c + "day;", 1, 0);
            faultInBook("0 1" + c + ";", 1, 3);
        }
    }

    private static void theFaults() {
        sentence("FAULTS, the first from the left, at its first byte");
        faultInLand("jug 999;person 9 9;x", 2, 4);
        faultInLand("jug 1;  jugs 999;", 1, 8);
        faultInLand("jug   0999;", 2, 6);
        faultInLaw("1 +   1000 )", 2, 6);
        faultInWork("day;  pour   100;day", 2, 13);
        faultInBook("0   41;x", 2, 4);

        sentence("1 what can't stand there (at the length, if the text ends too early)");
        faultInLand("person", 1, 6);
        faultInLand("person  ", 1, 8);
        faultInLand("person 1", 1, 8);
        faultInLand("person 1 1", 1, 10);
        faultInLand("perso", 1, 0);
        faultInLaw("strong -", 1, 8);
        faultInLaw("strong - ", 1, 9);
        faultInLaw("(strong", 1, 7);
        faultInLaw("least", 1, 5);
        faultInLaw("least[1", 1, 7);
        faultInLaw("least[1,", 1, 8);
        faultInLaw("least[1,2 ", 1, 10);
        faultInWork("tell", 1, 4);
        faultInWork("tell 0", 1, 6);
        faultInWork("tell 0 0 ", 1, 9);
        faultInWork("again", 1, 5);
        faultInWork("again 3", 1, 7);
        faultInWork("again 3[", 1, 8);
        faultInWork("again 3[day;] ", 1, 14);
        faultInBook("1 ", 1, 2);

        sentence("or a 7th of ( least most again that is open at one time");
        due("six (", 5, () -> value("((((((5))))))"));
        due("six of all", 5, () -> value("(least[9,(most[5,(least[7,5])])])"));
        due("six, and six", 10, () -> value("((((((5))))))+((((((5))))))"));
        due("six on both sides", 5, () -> value("least[(((((5))))),(((((6)))))]"));
        faultInLaw("(((((((5)))))))", 3, 6);
        faultInLaw("((((((least[1,2]))))))", 3, 6);
        faultInLaw("(((((( most[1,2]))))))", 3, 7);
        faultInLaw("least[1,(((((((", 3, 13);
        faultInLaw("least[(((((((", 3, 11);
        faultInLaw("most[most[most[most[most[most[most[", 3, 30);
        faultInLaw("((((((5))))))+(((((((5)))))))", 3, 20);
        faultInLaw("((((((1000(", 2, 6);
        due("six again", 1, () -> work(in(""), "again 1[".repeat(6) + "day;" + "];".repeat(6)));
        due("six again, twice", 2, () -> work(in(""), ("again 1[".repeat(6) + "day;" + "];".repeat(6)).repeat(2)));
        faultInWork("again 1[".repeat(6) + "day;again 1[];" + "];".repeat(6), 3, 52);
        faultInWork("again 0[".repeat(6) + "again", 3, 48);
        faultInWork("again 0[".repeat(6) + "agains", 1, 48);

        sentence("of one the least");
        faultInLand(SEVEN + "persons", 1, 77);
        faultInLand("joke 0 1;".repeat(6) + "jokes 0 1;", 1, 54);
        faultInLand("jug 1 999;", 1, 6);
        faultInLaw("((((((lest", 1, 6);
        faultInLaw("1 1000", 1, 2);
        faultInWork("pour 1 999;", 1, 7);
    }

    // ---- 2: STEPS

    private static void theBeginning() {
        sentence("It is DAY 0 at first; nobody grieves, is thirsty, was told anything");
        DimpleWells x = in(SEVEN + "joke 0 1;".repeat(6));
        due("day", 0, () -> x.told(3));
        due("bits", 0, () -> x.told(6) | x.told(7) | x.told(8) | x.told(10) | x.told(11));
        for (int i = 0; i < 7; i++) {
            int person = i;
            due("person " + i, 0, () -> x.person(person, 2) + x.person(person, 3) + x.person(person, 4)
                + x.person(person, 5) + x.person(person, 6));
            for (int k = 0; k < 6; k++) {
                int joke = k;
                due("joke " + k, 0, () -> x.worn(joke, person) + x.joke(joke, 2));
            }
        }

        sentence("200 STEPS at most are begun by one WORK");
        DimpleWells y = in("jug 200;");
        due("197 and 3 of 4", 199, () -> work(y, "again 49[pour 1;pour 1;pour 1;pour 1;];pour 1;pour 1;pour 1;pour 1;"));
        due("what is left", 1, () -> y.told(4));
        due("what is left out is not refused", 0, () -> y.told(10));
        due("the next begins anew", 1, () -> work(y, "pour 1;pour 1;"));
        DimpleWells z = in("jug 200;");
        due("199 and one", 199, () -> work(z, "again 49[pour 1;pour 1;pour 1;pour 1;];pour 1;pour 1;day;"));
        due("the 200th is done", 1, () -> z.told(3));
        DimpleWells t = in("jug 200;");
        due("200 and one", 199, () -> work(t, "again 49[pour 1;pour 1;pour 1;pour 1;];pour 1;pour 1;pour 1;day;"));
        due("the 201st is not", 0, () -> t.told(3));
        DimpleWells within = in("jug 200;");
        due("within an again", 199, () -> work(within, "again 60[pour 1;pour 1;pour 1;day;];"));
        due("days of it", 49, () -> within.told(3));
        due("pours of it", 50, () -> within.told(4));

        sentence("an again, too, each time it is come to");
        DimpleWells u = in("");
        due("181 agains", 19, () -> work(u, "again 60[again 0[];again 0[];again 0[];];" + "day;".repeat(20)));
        due("days", 19, () -> u.told(3));
        due("agains are not refused", 0, () -> u.told(10));
        DimpleWells v = in("");
        due("2 agains, and a third", 197, () -> work(v, "again 60[day;];again 60[day;];again 60[day;];" + "day;".repeat(20)));
        due("the 200th is an again", 198, () -> work(in(""), "again 49[day;day;day;day;];day;day;again 9[day;];day;"));
        due("again of again", 199 - 4, () -> work(in(""), "again 60[again 60[day;];];"));

        sentence("REFUSED ones, too");
        DimpleWells w = in("jug 0;");
        due("196 refused", 3, () -> work(w, "again 49[pour 1;pour 1;pour 1;pour 1;];day;day;day;day;"));
        due("196 refused", 196, () -> w.told(10));
        due("days", 3, () -> w.told(3));
    }

    private static void theSteps() {
        sentence("tell: (REFUSED, if P was told one this DAY), and changes nothing");
        DimpleWells x = in(THREE, "tell 0 0;");
        String before = picture(x);
        due("the same", 0, () -> work(x, "tell 0 0;"));
        due("refused", 1, () -> x.told(10));
        x.undo();
        same("nothing changed", before, picture(x));
        due("another", 0, () -> work(x, "tell 1 0;"));
        due("another", 290, () -> 10 * x.told(4) + x.worn(1, 0) + x.joke(1, 2));
        due("of another person", 1, () -> work(x, "tell 0 1;"));
        due("on another day", 2, () -> work(x, "day;tell 0 0;"));
        due("how often", 2, () -> x.person(0, 5));
        due("a laugh of 0 is told, too", 1, () -> work(in(THREE), "tell 2 0;tell 0 0;"));

        sentence("LAUGH by D of WATER comes to the jug (999 at most there)");
        String rich = SEVEN + "joke 0 1;jug 200;drink 0;";
        String six = "tell 0 0;tell 0 1;tell 0 2;tell 0 3;tell 0 4;tell 0 5;";
        due("920", 920, () -> under("40", rich, six).told(4));
        due("998", 998, () -> under("40", rich, six, "pour 42;tell 0 6;").told(4));
        due("999", 999, () -> under("40", rich, six, "pour 41;tell 0 6;").told(4));
        due("1000", 999, () -> under("40", rich, six, "pour 40;tell 0 6;").told(4));
        DimpleWells y = under("40", rich, six, "tell 0 6;");
        due("1040", 999, () -> y.told(4));
        due("it laughed all the same", 40, () -> y.person(6, 6));
        due("one less", 900, () -> work(y, "pour 99;") * y.told(4));
        due("by no dimples", 9, () -> in(THREE, "tell 0 2;").told(4));

        sentence("grieve: the grief of P is N (REFUSED, if it is N or more)");
        DimpleWells z = in(THREE);
        due("1", 1, () -> work(z, "grieve 0 1;"));
        due("1 again", 0, () -> work(z, "grieve 0 1;"));
        due("2", 1, () -> work(z, "grieve 0 2;"));
        due("1 behind 2", 0, () -> work(z, "grieve 0 1;"));
        due("refused", 1, () -> z.told(10));
        due("it stays", 2, () -> z.person(0, 2));
        due("9", 1, () -> work(z, "grieve 0 9;"));
        due("it is 9, not more", 9, () -> z.person(0, 2));
        due("9 again", 0, () -> work(z, "grieve 0 9;"));
        due("of nobody else", 1, () -> z.told(6));

        sentence("cheer: it is 0 (REFUSED, if it is)");
        due("from 9", 1, () -> work(z, "cheer 0;"));
        due("it is 0", 0, () -> z.person(0, 2));
        due("from 0", 0, () -> work(z, "cheer 0;"));
        due("refused", 1, () -> z.told(10));
        due("from 1", 2, () -> work(z, "grieve 0 1;cheer 0;"));

        sentence("pour: the jug is N less (REFUSED, if there is less in it)");
        DimpleWells u = in("jug 9;");
        due("more", 0, () -> work(u, "pour 10;"));
        due("it stays", 9, () -> u.told(4));
        due("all", 1, () -> work(u, "pour 9;"));
        due("nothing is left", 0, () -> u.told(4));
        due("of nothing", 0, () -> work(u, "pour 1;"));
        due("refused", 1, () -> u.told(10));
        due("99 of 200", 2, () -> work(in("jug 200;"), "pour 99;pour 99;pour 99;"));
    }

    private static void theDays() {
        String three = "person 0 0;person 0 0;person 0 0;joke 0 1;";
        sentence("day (REFUSED on DAY 400), and changes nothing");
        DimpleWells x = onDay(399, three + "jug 200;drink 0;");
        due("on day 399", 1, () -> work(x, "day;"));
        due("day 400", 400, () -> x.told(3));
        work(x, "tell 0 0;grieve 1 4;");
        due("on day 400", 0, () -> work(x, "day;day;"));
        due("refused", 2, () -> x.told(10));
        due("it stays", 400, () -> x.told(3));
        due("who was told", 1, () -> x.told(8));
        due("grief stays", 4, () -> x.person(1, 2));
        due("the jug stays", 200, () -> x.told(4));
        due("other steps are done", 2, () -> work(x, "tell 0 1;day;pour 1;"));
        due("undone it is earlier", 3, () -> {
            x.undo();
            x.undo();
            x.undo();
            x.undo();
            return x.told(3) - 396;
        });

        sentence("each PERSON, by numbers, drinks as told, as far as the jug lasts");
        due("all of it, and one left", 1, () -> in(three + "jug 7;", "day;").told(4));
        due("just all of it", 0, () -> in(three + "jug 6;", "day;").told(4));
        due("just all of it, thirst", 0, () -> in(three + "jug 6;", "day;").told(7));
        due("one is not there", 4, () -> in(three + "jug 5;", "day;").told(7));
        due("one is not there, thirst", 1, () -> in(three + "jug 5;", "day;").told(11));
        due("two are not there", 2, () -> in(three + "jug 4;", "day;").told(11));
        due("three are not there", 6, () -> in(three + "jug 3;", "day;").told(7));
        due("nothing is there", 7, () -> in(three + "jug 0;", "day;").told(7));
        due("drink 0", 0, () -> in(three + "jug 0;drink 0;", "day;").told(7));
        due("nobody drinks", 20, () -> in("", "day;").told(4));

        sentence("who had all of it has thirst 0; to the thirst of each other one comes what was not there (99 at most)");
        String wet = "person 1 0;joke 0 1;jug 0;drink 9;";
        due("9 comes", 9, () -> in(wet, "day;").person(0, 3));
        due("9 and 8", 17, () -> under("1", wet, "day;tell 0 0;day;").person(0, 3));
        due("9 and 1", 10, () -> under("8", wet, "day;tell 0 0;day;").person(0, 3));
        due("9 and all", 0, () -> under("9", wet, "day;tell 0 0;day;").person(0, 3));
        due("90", 90, () -> in(wet, "again 10[day;];").person(0, 3));
        due("99", 99, () -> in(wet, "again 11[day;];").person(0, 3));
        due("108", 99, () -> in(wet, "again 12[day;];").person(0, 3));
        due("98", 98, () -> in("person 1 1;jug 0;drink 7;", "again 14[day;];").person(0, 3));
        due("105", 99, () -> in("person 1 1;jug 0;drink 7;", "again 15[day;];").person(0, 3));
        due("98 and 1", 99, () -> under("6", "person 1 0;joke 0 1;jug 0;drink 7;", "again 14[day;];tell 0 0;day;").person(0, 3));
        due("99 and all", 0, () -> under("9", wet, "again 12[day;];tell 0 0;day;").person(0, 3));

        sentence("then each grief is 1 less (0 stays); nobody was told any this DAY; the DAY is one more");
        DimpleWells y = in(three, "grieve 0 1;grieve 1 2;tell 0 0;tell 0 2;");
        due("griefs", 3, () -> y.told(6));
        due("told", 5, () -> y.told(8));
        work(y, "day;");
        due("1 less", 10, () -> 100 * y.person(0, 2) + 10 * y.person(1, 2) + y.person(2, 2));
        due("nobody was told any", 0, () -> y.told(8) + y.person(0, 4));
        due("by now one was", 1, () -> y.person(0, 5));
        work(y, "day;");
        due("0 stays", 0, () -> y.told(6) + y.person(0, 2) + y.person(1, 2) + y.person(2, 2));
        due("day", 2, () -> y.told(3));
    }

    // ---- 3: what is asked

    private static void theBest() {
        sentence("WATER of a JOKE and a PERSON: LAUGH now, by D (whether told one this DAY or not)");
        DimpleWells x = in(THREE);
        due("not told", 20, () -> x.water(0, 0));
        work(x, "tell 0 0;");
        due("told", 14, () -> x.water(0, 0));
        due("by D of 0", 0, () -> x.water(0, 2));
        due("40 by 3", 120, () -> under("40", SEVEN + "joke 0 1;").water(0, 6));

        sentence("BEST: of all ways to give JOKES to unlike PERSONS who were told none this DAY");
        due("no jokes", 0, () -> in(SEVEN).best());
        DimpleWells nobody = in("joke 1 1;");
        due("no persons", 0, nobody::best);
        due("no persons", -1, () -> nobody.given(0));
        DimpleWells told = in("person 1 0;joke 0 5;", "tell 0 0;");
        due("all were told", 0, told::best);
        due("all were told", -1, () -> told.given(0));
        work(told, "day;");
        due("on another day", 2, told::best);
        due("on another day", 0, () -> told.given(0));

        sentence("(each JOKE to one, or none) that by which WATER together is most");
        DimpleWells few = in("person 1 0;joke 0 5;joke 0 9;");
        due("more jokes than persons", 9, few::best);
        due("more jokes than persons", -1, () -> few.given(0));
        due("more jokes than persons", 0, () -> few.given(1));
        DimpleWells many = in("person 1 0;person 2 0;person 2 0;joke 0 5;");
        due("more persons than jokes", 10, many::best);
        due("more persons than jokes", 1, () -> many.given(0));
        DimpleWells none = in("person 1 0;joke 9 1;joke 0 5;");
        due("none laughs at the first", -1, () -> none.given(0));
        due("none laughs at the first", 0, () -> none.given(1));
        DimpleWells cross = under("most[0, 9 - apart * person]", "person 2 0;person 3 9;joke 9 1;joke 0 1;");
        due("crosswise", 45, cross::best);
        due("crosswise", 1, () -> cross.given(0));
        due("crosswise", 0, () -> cross.given(1));

        sentence("of alike ways the first (JOKE by JOKE the least PERSON, none last)");
        DimpleWells alike = in("person 1 0;joke 0 5;joke 0 5;");
        due("the first joke", 0, () -> alike.given(0));
        due("none behind", -1, () -> alike.given(1));
        DimpleWells dull = in("person 0 0;person 0 0;joke 0 5;joke 0 5;joke 0 5;");
        due("no water", 0, dull::best);
        due("no water", 0, () -> dull.given(0));
        due("no water", 1, () -> dull.given(1));
        due("no water", -1, () -> dull.given(2));
        DimpleWells full = under("person", SEVEN + "joke 0 1;".repeat(6));
        due("seven and six", 63, full::best);
        for (int i = 0; i < 6; i++) {
            int joke = i;
            due("seven and six, joke " + i, i + 1, () -> full.given(joke));
        }
        work(full, "tell 0 6;");
        due("six and six", 45, full::best);
        due("six and six", 5, () -> full.given(5));
    }

    private static void theEnough() {
        String land = "person 1 0;person 2 0;person 3 0;joke 0 5;joke 9 5;jug 9;drink 0;";
        sentence("ENOUGH for n: the fewest PERSONS .. are n or more together; of as few the least bits; NONE");
        int[] asked = {0, 9, 10, 14, 15, 19, 20, 24, 25, 29, 30, 34, 35, 39, 40, 999};
        int[] bits = {0, 0, 1, 1, 2, 2, 4, 4, 5, 5, 6, 6, 7, 7, -1, -1};
        for (int i = 0; i < asked.length; i++) {
            int n = asked[i];
            due("for " + n, bits[i], () -> in(land).enough(n));
        }
        due("the least bits of two", 1, () -> in("person 1 0;person 1 0;joke 0 5;jug 9;").enough(14));

        sentence("PERSONS who were told none this DAY");
        DimpleWells x = in(land, "tell 0 2;");
        due("24", 0, () -> x.enough(24));
        due("29", 1, () -> x.enough(29));
        due("30", 2, () -> x.enough(30));
        due("35", 3, () -> x.enough(35));
        due("39", 3, () -> x.enough(39));
        due("40", -1, () -> x.enough(40));
        work(x, "day;");
        due("40 on another day", 3, () -> x.enough(39));

        sentence("the most WATER of each of them by any one JOKE");
        due("the other one", 1, () -> in("person 1 9;joke 0 5;joke 9 5;jug 0;").enough(5));
        due("not by both", -1, () -> in("person 1 0;joke 0 5;joke 0 5;jug 0;").enough(6));
        due("no jokes", -1, () -> in(SEVEN).enough(21));
        due("no jokes, what is in the jug", 0, () -> in(SEVEN).enough(20));
        due("no persons", -1, () -> in("jug 5;").enough(6));
        due("no persons, what is in the jug", 0, () -> in("jug 5;").enough(5));

        sentence("n or more together (999 at most)");
        DimpleWells rich = under("40", SEVEN + "joke 0 1;jug 200;drink 0;");
        due("six of them", 63, () -> rich.enough(920));
        due("all of them", 127, () -> rich.enough(921));
        due("beyond it", 127, () -> rich.enough(999));
        work(rich, "tell 0 0;tell 0 1;tell 0 2;tell 0 3;tell 0 4;tell 0 5;tell 0 6;");
        due("the jug alone", 0, () -> rich.enough(999));
    }

    private static void theFullLand() {
        sentence("PERSONS, 7 at most; JOKES likewise, 6: the last ones are as the others");
        DimpleWells x = under("person + strong", SEVEN + "joke 0 1;joke 0 2;joke 0 3;joke 0 4;joke 0 5;joke 0 6;drink 0;");
        due("no lines", 100, () -> x.fits(6, 0));
        due("a look", 0, () -> x.look(6, 0));
        due("a look", 100, () -> x.look(6, 1));
        due("enough", 64, () -> x.enough(20 + 36));
        due("two of them", 4 + 16, () -> x.enough(20 + 54));
        due("liked", 5, () -> x.likes(6, 0));
        due("how much", 12, () -> x.likes(6, 1));
        due("told", 3, () -> work(x, "tell 5 6;tell 0 0;tell 4 1;"));
        due("was told one this day", 111, () -> 100 * x.person(6, 4) + 10 * x.person(0, 4) + x.person(1, 4));
        due("was not", 0, () -> x.person(5, 4));
        due("how often", 111, () -> 100 * x.person(6, 5) + 10 * x.person(0, 5) + x.person(1, 5));
        due("how much", 12, () -> x.person(6, 6));
        due("worn", 1, () -> x.worn(5, 6));
        due("not worn", 0, () -> x.worn(5, 5) + x.worn(4, 6) + x.worn(0, 6));
        due("how often it was told", 1, () -> x.joke(5, 2));
        due("who was told", 64 + 2 + 1, () -> x.told(8));
        due("nobody is thirsty", 0, () -> x.told(7) + x.told(11));
        due("none is thirstiest", -1, () -> x.driest(0));
        due("none is thirstiest", -1, () -> x.driest(1));
        due("nobody grieves", 0, () -> x.told(6));
        due("grieves", 64, () -> work(x, "grieve 6 9;") * x.told(6));
        due("grief", 9, () -> x.person(6, 2));
        due("who laughs", 0, () -> x.solemn(5));

        sentence("of a LAND behind others nothing is left");
        DimpleWells y = in("person 3 0;person 3 0;person 3 0;joke 0 20;joke 0 20;joke 0 20;");
        due("three", 180, y::best);
        due("three", 7, () -> y.enough(200));
        land(y, "person 3 0;joke 0 20;joke 0 20;");
        due("one and two", 60, y::best);
        due("one and two", -1, () -> y.given(1));
        land(y, "person 1 0;person 1 0;joke 0 2;");
        due("two and one", 2, y::best);
        due("two and one", 3, () -> y.enough(24));
        due("two and one", -1, () -> y.enough(25));
        due("it likes", 2, () -> y.likes(0, 1));
        work(y, "tell 0 0;tell 0 1;");
        due("all were told", 0, y::best);
        due("all were told", -1, () -> y.given(0));
        land(y, "person 1 0;");
        due("no jokes", 0, y::best);
        due("no jokes", -1, () -> y.enough(21));
    }

    private static void theLasting() {
        String land = "person 3 0;person 0 0;joke 0 1;";
        sentence("until the LAUGH is 0 the first time; 99 at most; WELL: LAUGHS of these by D together");
        String[] laws = {"97 - worn", "98 - worn", "99 - worn", "100 - worn", "1", "0", "(worn-3)*(worn-3)", "6 - told - worn", "1 - worn"};
        int[] lasts = {97, 98, 99, 99, 99, 0, 3, 3, 1};
        int[] wells = {9300, 9420, 9540, 9657, 297, 0, 42, 36, 3};
        for (int i = 0; i < laws.length; i++) {
            DimpleWells x = under(laws[i], land);
            due("lasts by " + laws[i], lasts[i], () -> x.lasts(0, 0));
            due("well by " + laws[i], wells[i], () -> x.well(0, 0));
            due("lasts by no dimples " + laws[i], lasts[i], () -> x.lasts(0, 1));
            due("well by no dimples " + laws[i], 0, () -> x.well(0, 1));
        }
        sentence("told again and again on this DAY (all else as now, but worn and told one more each time)");
        DimpleWells y = under("7 - worn - told - day - grief - thirst", land + "jug 4;drink 1;");
        due("at first", 4, () -> y.lasts(0, 0));
        work(y, "tell 0 0;");
        due("one who was told one this day", 3, () -> y.lasts(0, 0));
        due("told to another one", 3, () -> y.lasts(0, 1));
        due("well", 27, () -> y.well(0, 0));
        work(y, "day;grieve 0 1;");
        due("as now", 2, () -> y.lasts(0, 0));
        due("nothing changed", 1, () -> y.joke(0, 2));
    }

    private static void theGuesses() {
        String one = "person 1 5;joke 0 1;";
        sentence("FITS: pairs of a TASTE (0 to 9) and grief (0 to 9) by which all lines are right: how many, the first");
        due("no lines", 100, () -> in(one).fits(0, 0));
        due("no lines, the first", 0, () -> in(one).fits(0, 1));
        due("no jokes", 100, () -> in("person 1 5;").fits(0, 0));
        String[] laws = {"apart + grief", "apart + grief", "apart + grief", "grief", "apart", "40 + grief", "0 - grief", "apart + grief"};
        String[] lines = {"0 18;", "0 0;", "0 19;", "0 9;", "0 9;", "0 40;", "0 0;", "0 17;"};
        int[] pairs = {1, 1, 0, 10, 10, 100, 100, 2};
        int[] firsts = {99, 0, -1, 9, 90, 0, 0, 89};
        for (int i = 0; i < laws.length; i++) {
            DimpleWells x = under(laws[i], one, "grieve 0 4;");
            String line = lines[i];
            due("the book " + line, 1, () -> book(x, line));
            due("pairs by " + laws[i] + ", " + line, pairs[i], () -> x.fits(0, 0));
            due("the first by " + laws[i] + ", " + line, firsts[i], () -> x.fits(0, 1));
            due("the person stays", 54, () -> 10 * x.person(0, 1) + x.person(0, 2));
        }
        DimpleWells both = under("apart + grief", "person 1 5;joke 0 1;joke 9 1;");
        book(both, "0 17;1 8;");
        due("two lines", 1, () -> both.fits(0, 0));
        due("two lines", 98, () -> both.fits(0, 1));

        sentence("LOOK: the JOKE in no line by which fewest such pairs are left at the worst, of these the first");
        DimpleWells x = under("(apart + grief) * (strong - 1)", "person 1 5;joke 0 1;joke 0 2;joke 0 1;joke 9 2;");
        due("no lines", 1, () -> x.look(0, 0));
        due("no lines", 10, () -> x.look(0, 1));
        book(x, "1 9;");
        due("another one", 3, () -> x.look(0, 0));
        due("another one", 1, () -> x.look(0, 1));
        book(x, "1 9;3 9;");
        due("of alike ones the first", 0, () -> x.look(0, 0));
        due("no pairs are left", 0, () -> x.look(0, 1));
        book(x, "1 0;3 9;");
        due("one pair is left", 1, () -> x.look(0, 1));
        DimpleWells capped = under("apart * 20", one);
        due("what comes to 40 is one laugh", 80, () -> capped.look(0, 1));
        due("what comes to 0 is one laugh", 100, () -> under("0 - apart", one).look(0, 1));

        sentence("NONE both: all are in lines, or there are none");
        book(x, "0 1;1 1;2 1;3 1;");
        due("all are", -1, () -> x.look(0, 0));
        due("all are", -1, () -> x.look(0, 1));
        due("there are none", -1, () -> in("person 1 5;").look(0, 0));
        due("there are none", -1, () -> in("person 1 5;").look(0, 1));
    }

    private static void theStreetsAsked() {
        String path = SEVEN + "street 0 1;street 1 2;street 2 3;street 3 4;street 4 5;street 5 6;";
        String star = SEVEN + "street 6 0;street 6 1;street 6 2;street 6 3;street 6 4;street 6 5;";
        String all = "grieve 0 1;grieve 1 1;grieve 2 1;grieve 3 1;grieve 4 1;grieve 5 1;grieve 6 1;";
        sentence("COMFORT: each one who grieves is one of them, or has a STREET to one (0: nobody grieves)");
        due("nobody", 0, () -> in(path).comfort());
        due("no persons", 0, () -> in("").comfort());
        due("without streets", 127, () -> in(SEVEN, all).comfort());
        due("one without streets", 64, () -> in(SEVEN, "grieve 6 1;").comfort());
        due("a star", 64, () -> in(star, all).comfort());
        due("one of a star", 64, () -> in(star, "grieve 6 1;cheer 6;grieve 0 1;grieve 1 1;").comfort());
        sentence("of as few the least bits");
        due("a path", 37, () -> in(path, all).comfort());
        due("one on a path", 1, () -> in(path, "grieve 1 1;").comfort());
        due("the last on a path", 32, () -> in(path, "grieve 6 1;").comfort());
        due("the middle of a star", 1, () -> in(star, "grieve 6 1;").comfort());
        due("grief went by", 0, () -> in(path, all, "day;").comfort());

        sentence("WAY of two PERSONS: the fewest STREETS; NONE (0: one PERSON)");
        DimpleWells x = in(path);
        due("one person", 0, () -> x.way(6, 6));
        due("next", 1, () -> x.way(3, 2));
        due("all the way", 6, () -> x.way(0, 6));
        due("all the way back", 6, () -> x.way(6, 0));
        due("the shorter one", 2, () -> in(star + "street 0 1;street 1 2;street 2 3;").way(0, 3));
        due("none", -1, () -> in(SEVEN + "street 0 1;").way(0, 2));
        due("none, of two", -1, () -> in("person 1 1;person 1 1;").way(1, 0));
        due("one without streets", 0, () -> in("person 1 1;").way(0, 0));

        sentence("How many sets of PERSONS that hang together by STREETS there are (a single one is one)");
        due("no persons", 0, () -> in("").parts());
        due("one", 1, () -> in("person 1 1;").parts());
        due("seven", 7, () -> in(SEVEN).parts());
        due("a path", 1, () -> in(path).parts());
        due("a path from the end", 1, () -> in(SEVEN + "street 0 6;street 6 1;street 1 5;street 5 2;street 2 4;street 4 3;").parts());
        due("all but one", 2, () -> in(SEVEN + "street 0 1;street 1 2;street 2 3;street 3 4;street 4 5;").parts());
        due("a ring, and others", 5, () -> in(SEVEN + "street 4 5;street 5 6;street 6 4;").parts());
    }

    private static void theDry() {
        sentence("DRY: in how many DAYS (of 99), nothing else being done, any PERSON is thirsty; NONE (0: some are now)");
        String one = "person 0 0;joke 0 1;";
        due("now", 0, () -> in(one + "jug 1;", "day;").dry());
        due("the next day", 1, () -> in(one + "jug 1;").dry());
        due("the next day but one", 2, () -> in(one + "jug 3;").dry());
        due("98", 98, () -> in(one + "jug 195;").dry());
        due("99", 99, () -> in(one + "jug 197;").dry());
        due("100", -1, () -> in(one + "jug 198;").dry());
        due("nobody drinks", -1, () -> in("jug 0;drink 9;").dry());
        due("none is needed", -1, () -> in(one + "jug 0;drink 0;").dry());
        due("any", 1, () -> in(SEVEN + "jug 13;").dry());

        sentence("DAYS go by as by day (beyond 400, too)");
        String land = "person 1 0;joke 0 1;jug 200;drink 0;";
        DimpleWells late = onDay(400, "person 1 0;joke 0 1;jug 0;drink 1;");
        due("thirst is 99 there", 99, () -> late.ahead(99, 2));
        due("dry now", 0, late::dry);
        DimpleWells wet = onDay(400, land);
        due("never dry", -1, wet::dry);
        due("ahead", 200, () -> wet.ahead(99, 0));
        law(wet, "day - 390");
        due("a year's days", 10 + 11 + 12, () -> wet.year(1, 3, 0, 1));
        due("its water", 233, () -> wet.year(1, 3, 0, 0));
        due("the day stays", 400, () -> wet.told(3));
        DimpleWells last = under("1", "person 1 0;joke 0 1;jug 5;drink 1;");
        for (int i = 0; i < 8; i++) {
            work(last, "again 50[tell 0 0;day;];");
        }
        due("day 400", 400, () -> last.told(3));
        due("it drinks beyond", 0, () -> last.ahead(5, 0));
        due("all had it", 0, () -> last.ahead(5, 1));
        due("dry beyond", 6, last::dry);

        sentence("In n DAYS (0 to 99): 0 what is in the jug, 1 who is thirsty (bits), 2 thirst of all together");
        DimpleWells two = in("person 1 0;person 1 0;jug 7;", "grieve 0 2;");
        due("now", 7, () -> two.ahead(0, 0));
        due("now", 0, () -> two.ahead(0, 1) + two.ahead(0, 2));
        due("the next day", 3, () -> two.ahead(1, 0));
        due("two days", 2, () -> two.ahead(2, 1));
        due("two days", 1, () -> two.ahead(2, 2));
        due("three days", 3, () -> two.ahead(3, 1));
        due("99 days", 198, () -> two.ahead(99, 2));
        due("99 days, the jug", 0, () -> two.ahead(99, 0));
        due("nothing changed", 2, () -> two.person(0, 2));
    }

    private static void theComedians() {
        sentence("COMEDIANS: 0 how many RESTS, 1 the first (NONE), 2 what both have by it together (0 without)");
        int[][] rows = {
            {0, 0, 6, 36, 0, 0}, {0, 20, 6, 1, 0, 0}, {0, 0, 1, 1, 0, 0}, {99, 0, 1, 1, 0, 98}, {99, 20, 1, 1, 0, 98},
            {1, 0, 2, 3, 1, 1}, {9, 1, 6, 0, -1, 0}, {10, 1, 6, 1, 55, 0}, {2, 1, 2, 4, 0, 2}, {3, 1, 2, 3, 1, 2}};
        for (int[] row : rows) {
            for (int i = 0; i < 3; i++) {
                int what = i;
                due("v " + row[0] + ", w " + row[1] + ", n " + row[2] + ", what " + i, row[3 + i],
                    () -> new DimpleWells().comedians(row[0], row[1], row[2], what));
            }
        }
    }

    private static void some(int n, int k, int q, long above, long below) {
        due("above by " + n + ", " + k + ", " + q, above, () -> new DimpleWells().some(n, k, q, 0));
        due("below by " + n + ", " + k + ", " + q, below, () -> new DimpleWells().some(n, k, q, 1));
    }

    private static void theSome() {
        sentence("SOME of n (0 to 12), k (0 to 13), q (0 to 16): above, below, in least terms");
        some(0, 0, 0, 1, 1);
        some(0, 0, 16, 1, 1);
        some(0, 1, 16, 0, 1);
        some(0, 13, 8, 0, 1);
        some(12, 0, 0, 1, 1);
        some(12, 0, 5, 1, 1);
        some(12, 1, 0, 0, 1);
        some(12, 12, 16, 1, 1);
        some(12, 13, 16, 0, 1);
        some(11, 12, 15, 0, 1);
        some(12, 12, 15, 129746337890625L, 281474976710656L);
        some(12, 1, 1, 151728638820031L, 281474976710656L);
        some(12, 12, 1, 1, 281474976710656L);
        some(12, 6, 8, 1255, 2048);
        some(1, 1, 8, 1, 2);
        some(1, 1, 12, 3, 4);
        some(2, 1, 8, 3, 4);
        some(2, 2, 4, 1, 16);
        some(3, 2, 8, 1, 2);
    }

    private static void theShares() {
        sentence("SHARES of n among told PERSONS (bits) by thirst: no more than a bound, the greatest (all, if they are no more)");
        DimpleWells x = in("person 1 0;person 1 0;person 1 0;jug 13;drink 9;", "day;");
        due("thirsts", 59, () -> 100 * x.person(0, 3) + 10 * x.person(1, 3) + x.person(2, 3));
        int[] asked = {0, 1, 2, 9, 10, 11, 12, 13, 14, 15, 999};
        int[] first = {0, 0, 1, 4, 5, 5, 5, 5, 5, 5, 5};
        int[] second = {0, 0, 1, 4, 5, 6, 7, 8, 9, 9, 9};
        for (int i = 0; i < asked.length; i++) {
            int n = asked[i];
            due("of " + n, first[i], () -> x.share(1, 7, n));
            due("of " + n, second[i], () -> x.share(2, 7, n));
            due("of " + n + ", who is not thirsty", 0, () -> x.share(0, 7, n));
            due("of " + n + ", alone", Math.min(n, 9), () -> x.share(2, 4, n));
        }
        sentence("(0, if it is none of them)");
        due("none of them", 0, () -> x.share(1, 5, 999));
        due("of no persons", 0, () -> x.share(1, 0, 999));
        DimpleWells dry = in(SEVEN + "jug 0;drink 9;", "again 12[day;];");
        due("thirst of 99", 99, () -> dry.share(6, 127, 693));
        due("thirst of 99, one less", 98, () -> dry.share(6, 127, 692));
        due("thirst of 99, one too little", 0, () -> dry.share(6, 127, 6));
        due("one each", 1, () -> dry.share(6, 127, 7));
        due("one each", 1, () -> dry.share(6, 127, 13));
    }

    private static void theLikings() {
        sentence("The JOKE of most LAUGH of a PERSON now, of alike ones the first; NONE both: there are no JOKES");
        due("no jokes", -1, () -> in(SEVEN).likes(6, 0));
        due("no jokes", -1, () -> in(SEVEN).likes(6, 1));
        DimpleWells x = in("person 1 0;person 1 9;joke 9 1;joke 0 5;joke 0 5;joke 0 4;");
        due("the first", 1, () -> x.likes(0, 0));
        due("its laugh", 5, () -> x.likes(0, 1));
        work(x, "tell 1 0;tell 0 1;");
        due("worn a little", 2, () -> x.likes(0, 0));
        DimpleWells dull = under("0 - strong", "person 1 0;joke 0 2;joke 0 1;");
        due("nothing to laugh at", 0, () -> dull.likes(0, 0));
        due("nothing to laugh at", 0, () -> dull.likes(0, 1));

        sentence("PERSONS (bits) who would not laugh at a JOKE now");
        due("all", 127, () -> under("0", SEVEN + "joke 0 1;").solemn(0));
        due("none", 0, () -> under("1", SEVEN + "joke 0 1;").solemn(0));
        due("the last", 64, () -> under("6 - person", SEVEN + "joke 0 1;").solemn(0));
        due("the first", 1, () -> under("person", SEVEN + "joke 0 1;").solemn(0));
        due("no persons", 0, () -> under("0", "joke 0 1;").solemn(0));

        sentence("The thirstiest PERSON, of alike ones the first; NONE both: none is thirsty");
        DimpleWells wet = in(SEVEN);
        due("none", -1, () -> wet.driest(0));
        due("none", -1, () -> wet.driest(1));
        due("no persons", -1, () -> new DimpleWells().driest(0));
        due("no persons", -1, () -> new DimpleWells().driest(1));
        DimpleWells dry = in(SEVEN + "jug 13;", "day;");
        due("the last", 6, () -> dry.driest(0));
        due("its thirst", 1, () -> dry.driest(1));
        DimpleWells drier = in(SEVEN + "jug 9;", "day;");
        due("the first", 5, () -> drier.driest(0));
        due("its thirst", 2, () -> drier.driest(1));
        due("all alike", 0, () -> in(SEVEN + "jug 0;", "day;").driest(0));
        due("all alike", 2, () -> in(SEVEN + "jug 0;", "day;").driest(1));

        sentence("Pairs of PERSONS of the same TASTE: 0 how many (each once), 1 the first (NONE)");
        due("no persons", 0, () -> in("").alike(0));
        due("no persons", -1, () -> in("").alike(1));
        due("one", -1, () -> in("person 1 1;").alike(1));
        due("all", 21, () -> in(SEVEN).alike(0));
        due("all", 1, () -> in(SEVEN).alike(1));
        String unlike = "person 1 0;person 1 1;person 1 2;person 1 3;person 1 4;person 1 5;";
        due("none", 0, () -> in(unlike + "person 1 6;").alike(0));
        due("none", -1, () -> in(unlike + "person 1 6;").alike(1));
        due("the last two", 1, () -> in(unlike + "person 1 5;").alike(0));
        due("the last two", 56, () -> in(unlike + "person 1 5;").alike(1));
    }

    // ---- 3: YEARS

    private static final String LOTS = SEVEN + "joke 0 1;joke 0 2;joke 0 3;joke 0 4;joke 0 5;joke 0 6;jug 200;drink 0;";

    /** Of a YEAR in LOTS: 0 STRONG of what was told together, 1 the numbers of those who were told it, 2 who grieve. */
    private static long drawn(long seed, int days, int q, int what) {
        long s = seed & 0xFFFFFFFFL;
        long[] sums = new long[3];
        int[] grief = new int[7];
        for (int day = 0; day < days; day++) {
            s = (s * 1103515245L + 12345) % 4294967296L;
            sums[0] += s / 65536 % 32768 % 6 + 1;
            s = (s * 1103515245L + 12345) % 4294967296L;
            int person = (int) (s / 65536 % 32768 % 7);
            sums[1] += person;
            s = (s * 1103515245L + 12345) % 4294967296L;
            if (s / 65536 % 32768 % 16 < q) {
                grief[person] = 3;
            }
            for (int i = 0; i < 7; i++) {
                grief[i] = Math.max(0, grief[i] - 1);
            }
        }
        for (int i = 0; i < 7; i++) {
            sums[2] += grief[i] > 0 ? 1 << i : 0;
        }
        return sums[what];
    }

    private static void theYears() {
        sentence("the SEED (32 bits) becomes itself times 1,103,515,245, and 12,345 (it wraps); its bits 16 to 30");
        DimpleWells strong = under("strong", LOTS);
        DimpleWells person = under("person", LOTS);
        for (int seed : new int[] {0, 1, -1, LOWEST, LOWEST + 1, HIGHEST, HIGHEST - 1, 65535, 65536, -12345}) {
            for (int days : new int[] {1, 2, 96}) {
                String by = "by " + seed + ", " + days;
                due("jokes " + by, drawn(seed, days, 0, 0), () -> strong.year(seed, days, 0, 1));
                due("persons " + by, drawn(seed, days, 0, 1), () -> person.year(seed, days, 0, 1));
                for (int q : new int[] {0, 1, 15, 16}) {
                    due("griefs " + by + ", " + q, drawn(seed, days, q, 2), () -> strong.year(seed, days, q, 3));
                }
            }
        }
        due("nothing changed", 0, () -> strong.told(3) + strong.told(6) + strong.told(8) + strong.joke(0, 2));

        sentence("tell (if it can be done); this PERSON grieves for 3 (as by grieve, if it can)");
        DimpleWells told = under("strong", "person 1 0;joke 0 7;jug 0;drink 0;", "tell 0 0;grieve 0 9;");
        due("not on this day", 0, () -> told.year(5, 1, 16, 1));
        due("on the next one", 7, () -> told.year(5, 2, 16, 1));
        due("the jug", 14, () -> told.year(5, 2, 16, 0));
        due("a greater grief stays", 1, () -> told.year(5, 7, 0, 3));
        due("a greater grief goes by", 0, () -> told.year(5, 9, 0, 3));
        DimpleWells sad = under("grief", "person 1 0;joke 0 7;drink 0;", "grieve 0 9;");
        due("a lesser one does not come in its place", 9 + 8, () -> sad.year(5, 2, 16, 1));
        due("it does behind 3", 9 + 8 + 7 + 6 + 5 + 4 + 3 + 2 + 2, () -> sad.year(5, 9, 16, 1));
        DimpleWells calm = under("1", "person 1 0;joke 0 7;jug 0;drink 9;");
        due("q of 0", 0, () -> calm.year(5, 96, 0, 3));
        due("q of 16", 1, () -> calm.year(5, 1, 16, 3));
        due("thirst", 8, () -> calm.year(5, 1, 0, 2));
        due("thirst, 99 at most", 99, () -> calm.year(5, 96, 0, 2));

        sentence("Without JOKES or PERSONS nothing is DRAWN, DAYS go by");
        DimpleWells still = in("person 1 0;jug 9;drink 4;");
        due("no jokes, the jug", 1, () -> still.year(1, 2, 16, 0));
        due("no jokes, laughs", 0, () -> still.year(1, 96, 16, 1));
        due("no jokes, thirst", 3, () -> still.year(1, 3, 16, 2));
        due("no jokes, griefs", 0, () -> still.year(1, 1, 16, 3));
        DimpleWells empty = in("joke 1 1;jug 9;");
        due("no persons, the jug", 9, () -> empty.year(1, 96, 16, 0));
        due("no persons, the rest", 0, () -> empty.year(1, 96, 16, 1) + empty.year(1, 96, 16, 2) + empty.year(1, 96, 16, 3));

        sentence("WATER comes to the jug (999 at most there), in a YEAR, too");
        due("the jug", 999, () -> under("40", "person 3 0;joke 0 1;drink 0;").year(1, 96, 0, 0));
        due("laughs", 3840, () -> under("40", "person 3 0;joke 0 1;drink 0;").year(1, 96, 0, 1));
    }

    private static void theSpans() {
        sentence("Of so many SEEDS (1 to 20; seed, seed and 1, ..): 0 the least in the jug then, 1 the most, 2 by how many a PERSON is thirsty then");
        String land = "person 1 0;person 0 0;joke 0 4;joke 0 9;jug 30;drink 3;";
        for (int seed : new int[] {0, -1, -10, HIGHEST, HIGHEST - 5, LOWEST}) {
            for (int many : new int[] {1, 2, 20}) {
                DimpleWells x = under("strong", land);
                long least = HIGHEST;
                long most = LOWEST;
                for (int i = 0; i < many; i++) {
                    long jug = x.year(seed + i, 9, 8, 0);
                    least = Math.min(least, jug);
                    most = Math.max(most, jug);
                }
                String by = "by " + seed + ", " + many;
                due("the least " + by, least, () -> x.span(seed, many, 9, 8, 0, 0));
                due("the most " + by, most, () -> x.span(seed, many, 9, 8, 1, 1));
            }
        }
        DimpleWells x = in("person 1 0;person 1 0;jug 3;");
        due("thirsty by all", 20, () -> x.span(7, 20, 1, 0, 2, 1));
        due("thirsty by none", 0, () -> x.span(7, 20, 1, 0, 2, 0));
        due("thirsty by one", 1, () -> x.span(7, 1, 96, 0, 2, 0));
        DimpleWells y = under("strong", "person 1 0;joke 0 1;joke 0 2;jug 0;");
        long thirsty = 0;
        for (int i = 0; i < 20; i++) {
            thirsty += y.year(HIGHEST - 9 + i, 1, 0, 2);
        }
        long byHowMany = thirsty;
        due("thirsty by some", byHowMany, () -> y.span(HIGHEST - 9, 20, 1, 0, 2, 0));
        due("by some, not all", 1, () -> byHowMany > 0 && byHowMany < 20 ? 1 : 0);
        due("nothing changed", 0, () -> y.told(3) + y.told(4) + y.told(7) + y.joke(0, 2));
    }

    // ---- Promises 1 to 8: texts

    private static void aNewObject() {
        sentence("Promise 1: A LAND without CLAUSES");
        int[] tolds = {0, 0, 0, 0, 20, 2, 0, 0, 0, 0, 0, 0};
        DimpleWells x = new DimpleWells();
        for (int i = 0; i < 12; i++) {
            int what = i;
            due("told " + i, tolds[i], () -> x.told(what));
        }
        due("fault", -1, x::fault);
        due("images, bytes, works", 0, () -> x.count(0) + x.count(1) + x.count(2));
        due("refusals", 0, () -> x.status(0) + x.status(1));
        due("undo", -1, x::undo);
        due("restore", -1, x::restore);
        due("best", 0, x::best);
        due("comfort", 0, x::comfort);
        due("dry", -1, x::dry);
        due("parts", 0, x::parts);
        due("enough", 0, () -> x.enough(20));
        due("enough", -1, () -> x.enough(21));
        due("ahead", 20, () -> x.ahead(99, 0));
        due("a year", 20, () -> x.year(3, 96, 16, 0));
        due("no person", NSE, () -> x.person(0, 0));
        due("no joke", NSE, () -> x.joke(0, 0));
        due("no street", NSE, () -> x.street(0, 0));
        due("no book", -8, () -> book(x, "0 0;"));
        due("a work", 2, () -> work(x, "pour 20;day;"));
    }

    private static void theFeeding() {
        sentence("Promise 2: of each number the highest first: how many there are");
        DimpleWells x = new DimpleWells();
        due("20", 20, () -> x.feed(0x6a756720, 0x33373b20, 0x64726e6b, -1, 0x7fffffff));
        due("one number, and half of the next", 0, () -> x.land(7));
        due("what was told", 37, () -> x.told(4));
        x.feed(0x6a756720, 0x31353b64, 0x72696e6b, 0x20363b20, 0x20202020);
        due("of all five", 0, () -> x.land(20));
        due("of all five", 156, () -> 10 * x.told(4) + x.told(5));
        for (int number : new int[] {0x80202020, 0xff202020, 0x00202020, 0xe1202020}) {
            x.feed(number, 0, 0, 0, 0);
            due("a byte that can't stand anywhere", -9, () -> x.land(1));
            due("its place", 0, x::fault);
        }

        sentence("Promise 2: NONE, doing nothing, if there would be more than 600");
        DimpleWells y = new DimpleWells();
        for (int i = 1; i <= 30; i++) {
            int bytes = 20 * i;
            due("feed " + i, bytes, () -> y.feed(0x6a756720, 0x313b2020, 0x20202020, 0x20202020, 0x20202020));
        }
        for (int i = 0; i < 3; i++) {
            due("a 31st", -1, () -> y.feed(1, 2, 3, 4, 5));
            due("bytes", 600, () -> y.count(1));
        }
        due("nothing was done", 0, () -> y.land(600));
        due("one of its clauses", 1, () -> y.told(4));
        due("the tape is empty", 0, () -> y.count(1));
        due("there is room again", 20, () -> y.feed(1, 2, 3, 4, 5));
        due("none was refused", 0, () -> y.status(0) + y.status(1));
    }

    private static String padded(String text, int bytes) {
        return bytes < text.length() ? "" : text + " ".repeat(bytes - text.length());
    }

    /** A text may have 0 bytes to as many as are on the tape, but no more than most. */
    private static void lengths(String what, int most, String text, Asked asked) {
        for (int bytes : new int[] {0, 20, 60, 80, 140, 160, 600}) {
            int longest = Math.min(bytes, most);
            for (int n : new int[] {-1, longest + 1, LOWEST, HIGHEST}) {
                DimpleWells x = busy();
                put(x, padded(text, bytes));
                refused(what + " of " + n + ", there are " + bytes, IAE, x, () -> asked.answer(x, n));
                due("the tape stays", bytes, () -> x.count(1));
            }
            if (bytes > 0) {
                DimpleWells x = busy();
                put(x, padded(text, bytes));
                due(what + " of " + longest + ", there are " + bytes, 1, () -> asked.answer(x, longest) >= 0 ? 1 : 0);
                due("the tape is empty then", 0, () -> x.count(1));
                due("there is no fault", -1, x::fault);
            }
        }
        DimpleWells x = busy();
        put(x, text + "?");
        due(what + ", and no byte more", 1, () -> asked.answer(x, text.length()) >= 0 ? 1 : 0);
        due("the tape is empty then", 0, () -> x.count(1));
    }

    private static void theLengths() {
        sentence("Promise 3: IllegalArgumentException: n is not 0 to the TAPE's bytes (it stays)");
        lengths("land", 600, "person 1 1;", DimpleWells::land);
        sentence("Promise 4: Likewise the LAW (n to 150)");
        lengths("law", 150, "strong", DimpleWells::law);
        sentence("Promise 5: Likewise WORK (n to 150)");
        lengths("work", 150, "pour 1;", DimpleWells::work);
        sentence("Promise 6: Likewise the BOOK (n to 60)");
        lengths("book", 60, "0 1;", DimpleWells::book);
    }

    private static void theNewLand() {
        sentence("Promise 3: are the LAND (DAY 0; no LAW, BOOK, IMAGES, nothing to undo): how many PERSONS");
        DimpleWells x = busy();
        due("persons", 3, () -> land(x, THREE));
        same("as a new one", picture(in(THREE)), picture(x));
        due("restore", -1, x::restore);
        due("undo", -1, x::undo);
        due("no law", 10 - 6 - 1, () -> x.would(10, 3, 0, 0, 0, 1, 0, 0, 0, 0));
        DimpleWells fewer = in(SEVEN + "joke 0 1;".repeat(6) + "street 0 1;", "tell 5 6;grieve 6 9;again 9[day;];");
        due("fewer", 1, () -> land(fewer, "person 1 5;"));
        same("as a new one", picture(in("person 1 5;")), picture(fewer));
        due("no such person", NSE, () -> fewer.person(1, 0));
        due("no such joke", NSE, () -> fewer.joke(0, 0));
        due("no such street", NSE, () -> fewer.street(0, 0));
        due("of no bytes", 0, () -> busy().land(0));

        sentence("Promise 3: or the FAULT less 10 (all stays)");
        DimpleWells y = busy();
        due("a fault", -8, () -> land(y, "person 1 1;person 1 1;joke 0 1;jug 5;drink 1;jug 201;"));
        same("all stays", picture(busy()), picture(y));
        due("the law stays", 10 - 3 - 1, () -> y.would(10, 3, 0, 0, 0, 1, 0, 0, 0, 0));
        due("what can be undone stays", 0, y::undo);
        due("the image stays", 0, y::restore);
        DimpleWells z = busy();
        due("a fault in a law", -9, () -> law(z, "strong * 2 +"));
        due("a fault in a work", -9, () -> work(z, "day;grieve 0 9;day"));
        due("a fault in a book", -8, () -> book(z, "0 1;2 1;0 2;"));
        same("all stays", picture(busy()), picture(z));

        DimpleWells w = in("jug 1;");
        due("a fault at the end", -9, () -> land(w, "person 1 1;person 1 1;person 1 1;joke 1 1;street 0 1;street 0 2;jug 5;drink 9;x"));
        due("what was ahead of a fault is not kept", 2, () -> land(w, "person 1 1;person 1 1;street 1 0;"));
        same("as a new one", picture(in("person 1 1;person 1 1;street 1 0;")), picture(w));
        DimpleWells v = busy();
        due("a fault at the end of a book", -9, () -> book(v, "0 1;2 5;x"));
        due("what was ahead of it is not kept", 2, () -> book(v, "2 5;0 1;"));

        sentence("Promise 7: The place of the FAULT of the latest text; NONE without");
        DimpleWells t = busy();
        due("without", -1, t::fault);
        law(t, "1+");
        due("of a law", 2, t::fault);
        due("a call that is refused is no text", IAE, () -> t.land(1));
        due("of the law", 2, t::fault);
        due("feed is no text", 20, () -> t.feed(1, 2, 3, 4, 5));
        due("of the law", 2, t::fault);
        due("a good one", 0, () -> t.book(0));
        due("of a good one", -1, t::fault);
        land(t, "?");
        due("of a land, at its first byte", 0, t::fault);
        t.undo();
        due("undo is no text", 0, t::fault);
    }

    private static DimpleWells sixteen() {
        DimpleWells x = in("person 1 0;joke 0 1;jug 200;drink 0;");
        for (int i = 1; i <= 15; i++) {
            work(x, "pour 1;");
        }
        due("15", 15, () -> x.count(2));
        due("the 16th", 1, () -> work(x, "pour 1;cheer 0;cheer 0;"));
        return x;
    }

    private static void theWorks() {
        sentence("Promise 5: -20 ahead of that (nothing is read, there is no FAULT, the TAPE is empty then): 16 WORKS are there that were not undone");
        DimpleWells x = sixteen();
        String before = picture(x);
        law(x, "1+");
        due("a good one", -20, () -> work(x, "pour 1;"));
        due("no fault", -1, x::fault);
        due("the tape", 0, () -> x.count(1));
        due("one with a fault", -20, () -> work(x, "pour 0;"));
        due("no fault", -1, x::fault);
        due("the tape", 0, () -> x.count(1));
        due("of no bytes", -20, () -> x.work(0));
        same("nothing changed", before, picture(x));
        put(x, "pour 1;");
        due("n of 21", IAE, () -> x.work(21));
        due("the tape stays", 20, () -> x.count(1));
        due("n of -1", IAE, () -> x.work(-1));
        due("again", -20, () -> x.work(7));
        due("others are read", 1, () -> law(x, "5"));
        due("others are read", 1, () -> book(x, "0 1;"));
        due("undone", 15, x::undo);
        due("there is room for one", 1, () -> work(x, "pour 99;"));
        due("and for no other", -20, () -> work(x, "pour 99;"));
        due("a new land has room", 0, () -> land(x, ""));
        due("a new land has room", 1, () -> work(x, "day;"));

        sentence("Promise 5: WORKS of an IMAGE count, too");
        DimpleWells y = sixteen();
        due("an image", 1, y::image);
        due("undone", 15, y::undo);
        due("room", 0, () -> work(y, ""));
        due("undone", 15, y::undo);
        due("undone", 14, y::undo);
        due("brought back", 0, y::restore);
        due("no room", -20, () -> work(y, "day;"));
        due("all are there", 16, () -> y.count(2));

        sentence("Promise 8: how many are left; -1: there is none");
        DimpleWells z = sixteen();
        for (int i = 15; i >= 0; i--) {
            due("undo", i, z::undo);
        }
        String first = picture(z);
        due("the jug", 200, () -> z.told(4));
        due("none", -1, z::undo);
        due("none", -1, z::undo);
        same("nothing changed", first, picture(z));
        due("a work of no steps can be undone", 0, () -> {
            work(z, "");
            return z.undo();
        });
        work(z, "cheer 0;");
        due("a work whose step was refused can be, too", 1, () -> z.count(2));

        sentence("Promise 5: how many STEPS were done (agains not counted, nor REFUSED ones)");
        due("agains", 0, () -> work(in(""), "again 3[again 3[];];"));
        due("refused ones", 1, () -> work(in("jug 5;"), "again 3[pour 5;];"));
    }

    private static void theRefusedSteps() {
        sentence("Promise 9: 10 STEPS REFUSED by the latest WORK (0 ahead of any, behind undo(), restore())");
        DimpleWells x = in(THREE);
        due("ahead of any", 0, () -> x.told(10));
        x.image();
        work(x, "cheer 0;cheer 1;");
        due("two", 2, () -> x.told(10));
        due("an image", 2, x::image);
        due("behind an image", 2, () -> x.told(10));
        due("behind a restore", 1, () -> x.restore() + x.told(10));
        work(x, "cheer 0;");
        due("one", 1, () -> x.told(10));
        due("behind an undo", 1, () -> x.undo() + x.told(10));
        work(x, "cheer 0;");
        work(x, "day;");
        due("of the latest", 0, () -> x.told(10));
        work(x, "again 60[again 3[cheer 0;];];");
        due("many", 200 - 1 - 50, () -> x.told(10));
    }

    // ---- Promises 9 to 37: what may be asked

    private static void theWhats() {
        sentence("Promise 9: IllegalArgumentException: another what (so below)");
        range("told", IAE, 0, 11, DimpleWells::told);
        range("person, what", IAE, 0, 7, (x, n) -> x.person(2, n));
        range("joke, what", IAE, 0, 2, (x, n) -> x.joke(2, n));
        range("street, what", IAE, 0, 1, (x, n) -> x.street(1, n));
        range("ahead, what", IAE, 0, 2, (x, n) -> x.ahead(1, n));
        range("fits, what", IAE, 0, 1, (x, n) -> x.fits(0, n));
        range("look, what", IAE, 0, 1, (x, n) -> x.look(0, n));
        range("comedians, what", IAE, 0, 2, (x, n) -> x.comedians(1, 1, 1, n));
        range("some, part", IAE, 0, 1, (x, n) -> x.some(1, 1, 1, n));
        range("likes, what", IAE, 0, 1, (x, n) -> x.likes(0, n));
        range("driest, what", IAE, 0, 1, DimpleWells::driest);
        range("alike, what", IAE, 0, 1, DimpleWells::alike);
        range("year, what", IAE, 0, 3, (x, n) -> x.year(1, 1, 1, n));
        range("span, what", IAE, 0, 2, (x, n) -> x.span(1, 1, 1, 1, n, 0));
    }

    private static void theOnes() {
        sentence("Promise 10: NoSuchElementException: no such PERSON, JOKE, STREET (so below, ahead of others)");
        range("person", NSE, 0, 2, (x, n) -> x.person(n, 0));
        range("joke", NSE, 0, 2, (x, n) -> x.joke(n, 0));
        range("street", NSE, 0, 1, (x, n) -> x.street(n, 0));
        range("worn, joke", NSE, 0, 2, (x, n) -> x.worn(n, 0));
        range("worn, person", NSE, 0, 2, (x, n) -> x.worn(0, n));
        range("laugh, joke", NSE, 0, 2, (x, n) -> x.laugh(n, 0));
        range("laugh, person", NSE, 0, 2, (x, n) -> x.laugh(0, n));
        range("water, joke", NSE, 0, 2, (x, n) -> x.water(n, 0));
        range("water, person", NSE, 0, 2, (x, n) -> x.water(0, n));
        range("given", NSE, 0, 2, DimpleWells::given);
        range("lasts, joke", NSE, 0, 2, (x, n) -> x.lasts(n, 0));
        range("lasts, person", NSE, 0, 2, (x, n) -> x.lasts(0, n));
        range("well, joke", NSE, 0, 2, (x, n) -> x.well(n, 0));
        range("well, person", NSE, 0, 2, (x, n) -> x.well(0, n));
        range("fits", NSE, 0, 2, (x, n) -> x.fits(n, 0));
        range("look", NSE, 0, 2, (x, n) -> x.look(n, 0));
        range("way, person", NSE, 0, 2, (x, n) -> x.way(n, 0));
        range("way, other", NSE, 0, 2, (x, n) -> x.way(0, n));
        range("share", NSE, 0, 2, (x, n) -> x.share(n, 7, 0));
        range("likes", NSE, 0, 2, (x, n) -> x.likes(n, 0));
        range("solemn", NSE, 0, 2, DimpleWells::solemn);

        Asked[] both = {(x, n) -> x.person(n, 8), (x, n) -> x.joke(n, 3), (x, n) -> x.street(n, 2), (x, n) -> x.fits(n, 2),
            (x, n) -> x.look(n, -1), (x, n) -> x.share(n, 8, 0), (x, n) -> x.share(n, 7, 1000), (x, n) -> x.share(n, -1, -1),
            (x, n) -> x.likes(n, 2), (x, n) -> x.worn(n, n), (x, n) -> x.way(n, n), (x, n) -> x.laugh(n, n)};
        for (int i = 0; i < both.length; i++) {
            Asked asked = both[i];
            for (int n : new int[] {-1, 7, 3, LOWEST, HIGHEST}) {
                DimpleWells x = busy();
                refused("ahead of others, " + i + " by " + n, NSE, x, () -> asked.answer(x, n));
            }
        }
        DimpleWells none = new DimpleWells();
        Asked[] ones = {(x, n) -> x.person(n, 0), (x, n) -> x.joke(n, 0), (x, n) -> x.street(n, 0), (x, n) -> x.worn(n, 0),
            (x, n) -> x.given(n), (x, n) -> x.lasts(n, 0), (x, n) -> x.well(n, n), (x, n) -> x.fits(n, 0), (x, n) -> x.look(n, 0),
            (x, n) -> x.way(n, n), (x, n) -> x.share(n, 0, 0), (x, n) -> x.likes(n, 0), (x, n) -> x.solemn(n)};
        for (int i = 0; i < ones.length; i++) {
            Asked asked = ones[i];
            due("there are none, " + i, NSE, () -> asked.answer(none, 0));
        }
        due("all were counted", ones.length, () -> none.status(0));
    }

    private static void theNumbersAsked() {
        sentence("Promise 16: strong (1 to 20), apart (0 to 9), worn, told (0 to 999 both), dimples (0 to 3), grief (0 to 9), ..");
        range("strong", IAE, 1, 20, (x, n) -> x.would(n, 0, 0, 0, 0, 0, 0, 0, 0, 0));
        range("apart", IAE, 0, 9, (x, n) -> x.would(1, n, 0, 0, 0, 0, 0, 0, 0, 0));
        range("worn", IAE, 0, 999, (x, n) -> x.would(1, 0, n, 0, 0, 0, 0, 0, 0, 0));
        range("told", IAE, 0, 999, (x, n) -> x.would(1, 0, 0, n, 0, 0, 0, 0, 0, 0));
        range("dimples", IAE, 0, 3, (x, n) -> x.would(1, 0, 0, 0, n, 0, 0, 0, 0, 0));
        range("grief", IAE, 0, 9, (x, n) -> x.would(1, 0, 0, 0, 0, n, 0, 0, 0, 0));
        range("near", IAE, 0, 6, (x, n) -> x.would(1, 0, 0, 0, 0, 0, n, 0, 0, 0));
        range("thirst", IAE, 0, 99, (x, n) -> x.would(1, 0, 0, 0, 0, 0, 0, n, 0, 0));
        range("day", IAE, 0, 400, (x, n) -> x.would(1, 0, 0, 0, 0, 0, 0, 0, n, 0));
        range("person, there or not", IAE, 0, 6, (x, n) -> x.would(1, 0, 0, 0, 0, 0, 0, 0, 0, n));
        String[] names = {"strong", "apart", "worn", "told", "dimples", "grief", "near", "thirst", "day", "person"};
        for (int i = 0; i < 10; i++) {
            DimpleWells x = under(names[i], "");
            due("by " + names[i], new int[] {1, 2, 37, 38, 3, 4, 5, 39, 36, 6}[i], () -> x.would(1, 2, 37, 38, 3, 4, 5, 39, 36, 6));
        }
        due("several out of range are one refusal", 1, () -> {
            DimpleWells x = new DimpleWells();
            of(() -> x.would(0, -1, -1, -1, -1, -1, -1, -1, -1, -1));
            return x.status(1);
        });

        sentence("Promises 17 to 30: n (0 to 99), n (0 to 999), v (0 to 99), w (0 to 20), n (1 to 6), ..");
        range("ahead, n", IAE, 0, 99, (x, n) -> x.ahead(n, 0));
        range("enough, n", IAE, 0, 999, DimpleWells::enough);
        range("comedians, v", IAE, 0, 99, (x, n) -> x.comedians(n, 0, 1, 0));
        range("comedians, w", IAE, 0, 20, (x, n) -> x.comedians(0, n, 1, 0));
        range("comedians, n", IAE, 1, 6, (x, n) -> x.comedians(0, 0, n, 0));
        range("some, n", IAE, 0, 12, (x, n) -> x.some(n, 0, 0, 0));
        range("some, k", IAE, 0, 13, (x, n) -> x.some(0, n, 0, 0));
        range("some, q", IAE, 0, 16, (x, n) -> x.some(0, 0, n, 0));
        range("share, n", IAE, 0, 999, (x, n) -> x.share(0, 7, n));
        range("share of one who is none of them, n", IAE, 0, 999, (x, n) -> x.share(0, 6, n));

        sentence("Promise 30: IllegalArgumentException: bits of no PERSONS");
        range("share, persons", IAE, 0, 7, (x, n) -> x.share(0, n, 0));
        due("one beside those told", IAE, () -> busy().share(0, 15, 0));
        due("the highest bit alone", IAE, () -> busy().share(0, 1 << 31 | 7, 0));
        due("bits of seven", 0, () -> in(SEVEN).share(0, 127, 0));
        due("a bit of an eighth", IAE, () -> in(SEVEN).share(0, 255, 0));

        sentence("Promises 36, 37: DAYS (1 to 96), Q (0 to 16), SEEDS (1 to 20); no such PERSON, also for 0, 1");
        range("year, days", IAE, 1, 96, (x, n) -> x.year(0, n, 0, 0));
        range("year, q", IAE, 0, 16, (x, n) -> x.year(0, 1, n, 0));
        range("span, many", IAE, 1, 20, (x, n) -> x.span(0, n, 1, 0, 0, 0));
        range("span, days", IAE, 1, 96, (x, n) -> x.span(0, 1, n, 0, 0, 0));
        range("span, q", IAE, 0, 16, (x, n) -> x.span(0, 1, 1, n, 0, 0));
        for (int i = 0; i < 3; i++) {
            int what = i;
            range("span, person, what " + i, IAE, 0, 2, (x, n) -> x.span(0, 1, 1, 0, what, n));
            due("no persons, what " + i, IAE, () -> new DimpleWells().span(0, 1, 1, 0, what, 0));
        }
        for (int seed : new int[] {LOWEST, -1, 0, HIGHEST}) {
            DimpleWells x = busy();
            fine("any seed", x, () -> x.year(seed, 1, 0, 0) + x.span(seed, 20, 1, 0, 0, 0));
        }
    }

    private static void nothingStaysChanged() {
        sentence("Asked, nothing stays changed");
        Asked[] all = {(x, n) -> x.best(), (x, n) -> x.given(0), (x, n) -> x.enough(99), (x, n) -> x.lasts(0, 0), (x, n) -> x.well(0, 0),
            (x, n) -> x.fits(0, 0), (x, n) -> x.look(0, 0), (x, n) -> x.comfort(), (x, n) -> x.way(0, 2), (x, n) -> x.dry(),
            (x, n) -> x.ahead(99, 0), (x, n) -> x.year(1, 96, 16, 0), (x, n) -> x.span(1, 20, 96, 16, 0, 0), (x, n) -> x.share(0, 7, 9),
            (x, n) -> x.would(20, 9, 999, 999, 3, 9, 6, 99, 400, 6), (x, n) -> x.parts(), (x, n) -> x.fault(), (x, n) -> x.count(n), (x, n) -> x.status(n)};
        for (int i = 0; i < all.length; i++) {
            Asked asked = all[i];
            DimpleWells x = busy();
            x.feed(1, 2, 3, 4, 5);
            fine("question " + i, x, () -> asked.answer(x, 0));
            long answer = asked.answer(x, 0);
            all[11].answer(x, 0);
            due("the same answer behind a year, question " + i, answer, () -> asked.answer(x, 0));
        }
        DimpleWells x = busy();
        x.year(1, 96, 16, 0);
        due("what can be undone", 0, x::undo);
        due("undone", 9, () -> x.told(4));
        due("the image", 0, x::restore);
    }

    // ---- Promises 38 to 41

    private static void theImages() {
        sentence("Promise 38: how many there are; -1: there are 3");
        DimpleWells x = in(THREE);
        due("restore of none", -1, x::restore);
        for (int i = 1; i <= 3; i++) {
            due("image", i, x::image);
            work(x, "pour 1;");
        }
        String before = picture(x);
        due("a fourth", -1, x::image);
        due("a fourth", -1, x::image);
        same("nothing changed", before, picture(x));

        sentence("Promise 39: All that is as in the latest IMAGE, which is gone: how many are left; -1: there is none");
        due("the third", 2, x::restore);
        due("the jug", 7, () -> x.told(4));
        due("works", 2, () -> x.count(2));
        due("there is room for one", 3, x::image);
        due("it is the latest", 2, x::restore);
        due("the second", 1, x::restore);
        due("the jug", 8, () -> x.told(4));
        due("the first", 0, x::restore);
        due("the jug", 9, () -> x.told(4));
        due("no works", -1, x::undo);
        work(x, "cheer 0;tell 0 0;");
        String later = picture(x);
        due("none", -1, x::restore);
        same("nothing changed", later, picture(x));

        sentence("Promise 38: An IMAGE of all that WORK changes, and of WORKS that can be undone");
        DimpleWells y = busy();
        y.image();
        due("undone to the beginning", 0, y::undo);
        work(y, "grieve 0 9;grieve 2 9;again 30[day;tell 2 0;tell 1 1;];");
        work(y, "day;");
        due("brought back", 1, y::restore);
        due("refused ones are not", 0, () -> y.told(10));
        due("works", 1, () -> y.count(2));
        due("undone", 0, y::undo);
        same("as ahead of the work", picture(beginning()), picture(y));

        DimpleWells z = busy();
        String all = picture(z);
        z.image();
        work(z, "grieve 0 9;again 30[day;tell 2 0;tell 1 1;];");
        z.restore();
        same("as it was, but for refused ones", all.replaceFirst("^((?:\\S+ ){10})1 ", "$10 "), picture(z));

        DimpleWells u = in(THREE, "pour 1;", "pour 2;", "pour 3;");
        u.image();
        due("undone", 0, () -> u.undo() + u.undo() + u.undo() - 3);
        for (int i = 0; i < 5; i++) {
            work(u, "day;grieve 0 " + (9 - i) + ";");
        }
        due("brought back", 0, u::restore);
        due("the jug", 3, () -> u.told(4));
        due("the third is undone", 2, u::undo);
        due("the jug", 6, () -> u.told(4));
        due("the second is undone", 1, u::undo);
        due("the jug", 8, () -> u.told(4));
        due("the first is undone", 0, u::undo);
        due("the jug", 9, () -> u.told(4));
        due("nothing of the others", 0, () -> u.told(3) + u.told(6));

        sentence("Promise 39: LAW, BOOK, TAPE and FAULT are none of that");
        DimpleWells t = busy();
        law(t, "7");
        book(t, "0 7;2 7;");
        law(t, "?");
        t.feed(1, 2, 3, 4, 5);
        due("brought back", 0, t::restore);
        due("the law", 7, () -> t.laugh(2, 2));
        due("the book", 2, () -> t.told(9));
        due("the tape", 20, () -> t.count(1));
        due("the fault", 0, t::fault);
    }

    /** What busy() is ahead of its work. */
    private static DimpleWells beginning() {
        DimpleWells x = under("strong - apart - worn - grief - person", THREE);
        book(x, "1 3;");
        x.image();
        return x;
    }

    private static void theCounts() {
        sentence("Promise 40: How many calls were refused; NONE for others. (No IMAGE keeps it.)");
        DimpleWells x = busy();
        for (int what : new int[] {-1, 2, 3, LOWEST, HIGHEST}) {
            due("status " + what, -1, () -> x.status(what));
        }
        due("status of others is not refused", 0, () -> x.status(0) + x.status(1));
        x.image();
        due("one", NSE, () -> x.person(3, 0));
        due("two", NSE, () -> x.joke(3, 9));
        due("three", IAE, () -> x.told(12));
        due("no such ones", 2, () -> x.status(0));
        due("wrong ones", 1, () -> x.status(1));
        x.restore();
        due("behind restore", 21, () -> 10 * x.status(0) + x.status(1));
        x.undo();
        due("behind undo", 21, () -> 10 * x.status(0) + x.status(1));
        land(x, "");
        due("behind another land", 21, () -> 10 * x.status(0) + x.status(1));
        law(x, "?");
        work(x, "?");
        due("a fault is not refused", 21, () -> 10 * x.status(0) + x.status(1));
        due("-1 is not refused", -3, () -> x.undo() + x.undo() + x.restore());
        due("-1 is not refused", 21, () -> 10 * x.status(0) + x.status(1));

        sentence("Promise 41: 0 IMAGES, 1 bytes of the TAPE, 2 WORKS that can be undone; NONE for others");
        DimpleWells y = busy();
        y.feed(1, 2, 3, 4, 5);
        y.image();
        due("images", 2, () -> y.count(0));
        due("bytes", 20, () -> y.count(1));
        due("works", 1, () -> y.count(2));
        for (int what : new int[] {-1, 3, 4, LOWEST, HIGHEST}) {
            due("count " + what, -1, () -> y.count(what));
        }
        due("count of others is not refused", 0, () -> y.status(0) + y.status(1));

        sentence("An object is used for at most 512 calls after it has been made");
        DimpleWells z = new DimpleWells();
        for (int i = 0; i < 511; i++) {
            due("call " + i, IAE, () -> z.told(12));
        }
        due("the 512th call", 511, () -> z.status(1));
    }

    public static void main(String[] arguments) {
        theLand();
        theStreets();
        theLaw();
        theValues();
        theNames();
        theTexts();
        theSigns();
        theFaults();
        theBeginning();
        theSteps();
        theDays();
        theBest();
        theEnough();
        theFullLand();
        theLasting();
        theGuesses();
        theStreetsAsked();
        theDry();
        theComedians();
        theSome();
        theShares();
        theLikings();
        theYears();
        theSpans();
        aNewObject();
        theFeeding();
        theLengths();
        theNewLand();
        theWorks();
        theRefusedSteps();
        theWhats();
        theOnes();
        theNumbersAsked();
        nothingStaysChanged();
        theImages();
        theCounts();
        if (wrong != 0) {
            System.out.println(wrong + " wrong answers");
            System.exit(1);
        }
        System.out.println("EdgeTests: all answers are as due");
    }
}
