import java.util.NoSuchElementException;

/** Each promise of the document by its number, with answers reckoned by hand. */
public final class PromiseTests {
    private static final int NSE = -1001;
    private static final int IAE = -1002;
    private static int wrong = 0;

    private interface Call {
        long answer();
    }

    private static long of(Call call) {
        try {
            return call.answer();
        } catch (NoSuchElementException e) {
            return NSE;
        } catch (IllegalArgumentException e) {
            return IAE;
        }
    }

    private static void due(String what, long want, Call call) {
        String got;
        try {
            got = String.valueOf(of(call));
        } catch (RuntimeException e) {
            got = e.toString();
        }
        if (!got.equals(String.valueOf(want))) {
            wrong++;
            System.out.println(what + " answered " + got + ", due is " + want);
        }
    }

    private static int put(DimpleWells x, String text) {
        byte[] bytes = new byte[(text.length() + 19) / 20 * 20];
        for (int i = 0; i < text.length(); i++) {
            bytes[i] = (byte) text.charAt(i);
        }
        int[] n = new int[bytes.length / 4];
        for (int i = 0; i < bytes.length; i++) {
            n[i / 4] = n[i / 4] << 8 | bytes[i] & 255;
        }
        for (int i = 0; i < n.length; i += 5) {
            x.feed(n[i], n[i + 1], n[i + 2], n[i + 3], n[i + 4]);
        }
        return text.length();
    }

    private static int land(DimpleWells x, String text) {
        return x.land(put(x, text));
    }

    private static int law(DimpleWells x, String text) {
        return x.law(put(x, text));
    }

    private static int work(DimpleWells x, String text) {
        return x.work(put(x, text));
    }

    private static int book(DimpleWells x, String text) {
        return x.book(put(x, text));
    }

    private static DimpleWells in(String land) {
        DimpleWells x = new DimpleWells();
        land(x, land);
        return x;
    }

    private static DimpleWells in(String land, String work) {
        DimpleWells x = in(land);
        work(x, work);
        return x;
    }

    private static void badLand(String text, int answer, int place) {
        DimpleWells x = in("person 1 1;jug 7;");
        due("land " + text, answer, () -> land(x, text));
        due("fault of land " + text, place, x::fault);
        due("the land stays behind " + text, 7, () -> x.told(4));
        due("the tape is empty behind " + text, 0, () -> x.count(1));
    }

    private static void badLaw(String text, int answer, int place) {
        DimpleWells x = in("person 1 1;joke 1 7;");
        due("law " + text, answer, () -> law(x, text));
        due("fault of law " + text, place, x::fault);
        due("the law stays behind " + text, 7, () -> x.laugh(0, 0));
    }

    private static void badWork(String text, int answer, int place) {
        DimpleWells x = in("person 1 1;person 1 1;joke 1 7;");
        due("work " + text, answer, () -> work(x, text));
        due("fault of work " + text, place, x::fault);
        due("nothing is done of " + text, 0, () -> x.count(2) + x.told(3) + x.told(6) + x.told(8));
        due("the jug stays behind " + text, 20, () -> x.told(4));
    }

    private static void badBook(String text, int answer, int place) {
        DimpleWells x = in("person 1 1;joke 1 7;joke 2 7;");
        book(x, "1 3;");
        due("book " + text, answer, () -> book(x, text));
        due("fault of book " + text, place, x::fault);
        due("the book stays behind " + text, 1, () -> x.told(9));
    }

    private static final String THREE = "person 2 3;person 1 8;person 0 3;joke 3 10;joke 7 12;joke 0 5;"
        + "street 0 1;street 1 2;jug 9;drink 4;";

    private static void promise1() {
        DimpleWells x = new DimpleWells();
        due("1 persons", 0, () -> x.told(0));
        due("1 jokes", 0, () -> x.told(1));
        due("1 streets", 0, () -> x.told(2));
        due("1 day", 0, () -> x.told(3));
        due("1 jug", 20, () -> x.told(4));
        due("1 drink", 2, () -> x.told(5));
        due("1 fault", -1, x::fault);
        due("1 law", 9, () -> x.would(20, 1, 2, 0, 0, 3, 0, 0, 0, 0));
        due("1 NONE", -1, () -> DimpleWells.NONE);
    }

    private static void promise2() {
        DimpleWells x = new DimpleWells();
        for (int i = 1; i <= 30; i++) {
            int bytes = 20 * i;
            due("2 feed", bytes, () -> x.feed(0x20202020, 0x20202020, 0x20202020, 0x20202020, 0x20202020));
        }
        due("2 feed beyond 600", -1, () -> x.feed(1, 1, 1, 1, 1));
        due("2 it did nothing", 600, () -> x.count(1));
        due("2 600 blanks are a land", 0, () -> x.land(600));
        due("2 empty then", 20, () -> x.feed(0x6a756720, 0x373b0000, 0, 0, 0));
        due("2 jug 7;", 0, () -> x.land(6));
        due("2 jug 7;", 7, () -> x.told(4));
        put(x, "jug 123;");
        due("2 only the first n count", -9, () -> x.land(6));
        due("2 only the first n count", 6, x::fault);
        put(x, "person 1 1;");
        due("2 only the first n count", -9, () -> x.land(5));
        due("2 only the first n count", 0, x::fault);
        due("2 high bytes", 20, () -> x.feed(-1, -1, -1, -1, -1));
        due("2 high bytes are no land", -9, () -> x.land(1));
    }

    private static void promise3() {
        DimpleWells x = new DimpleWells();
        due("3 land", 3, () -> land(x, THREE));
        due("3 n below 0", IAE, () -> x.land(-1));
        due("3 n beyond the tape", IAE, () -> x.land(1));
        put(x, "jug 1;");
        due("3 n beyond the tape", IAE, () -> x.land(21));
        due("3 the tape stays", 20, () -> x.count(1));
        due("3 no text", 0, () -> x.land(0));
        due("3 empty then", 0, () -> x.count(1));
        due("3 jug without", 20, () -> x.told(4));
        due("3 blanks", 2, () -> land(x, "  person2 3 ; person  0003 0 ;street 1 0;jug 1;jug 200;drink 9;drink 0;  "));
        due("3 the last jug", 200, () -> x.told(4));
        due("3 the last drink", 0, () -> x.told(5));
        due("3 D", 3, () -> x.person(1, 0));
        law(x, "7");
        work(x, "grieve 0 9;day;");
        x.image();
        due("3 a new land", 1, () -> land(x, "person 1 1;joke 1 3;"));
        due("3 day 0", 0, () -> x.told(3));
        due("3 nobody grieves", 0, () -> x.told(6));
        due("3 nothing to undo", -1, x::undo);
        due("3 no images", -1, x::restore);
        due("3 no law", 3, () -> x.laugh(0, 0));
        book(x, "0 3;");
        land(x, "person 1 1;joke 1 3;");
        due("3 no book", 0, () -> x.told(9));
        badLand("person 4 0;", -8, 7);
        badLand("person 0 10;", -8, 9);
        badLand("joke 10 1;", -8, 5);
        badLand("joke 0 0;", -8, 7);
        badLand("joke 0 21;", -8, 7);
        badLand("street 0 1;", -8, 7);
        badLand("person 0 0;person 0 0;street 0 2;", -8, 31);
        badLand("person 0 0;street 0 0;", -8, 20);
        badLand("person 0 0;person 0 0;street 0 1;street 0 1;", -8, 42);
        badLand("person 0 0;person 0 0;street 0 1;street 1 0;", -8, 42);
        badLand("jug 201;", -8, 4);
        badLand("jug 99999999999999999999;", -8, 4);
        badLand("jug 4294967296;", -8, 4);
        badLand("drink 10;", -8, 6);
        badLand("persons 1 1;", -9, 0);
        badLand("perso 1 1;", -9, 0);
        badLand("Person 1 1;", -9, 0);
        badLand("  ;", -9, 2);
        badLand("7", -9, 0);
        badLand("jug 1", -9, 5);
        badLand("jug 1  ", -9, 7);
        badLand("jug ", -9, 4);
        badLand("jug -1;", -9, 4);
        badLand("jug 1 2;", -9, 6);
        badLand("person 1;", -9, 8);
        badLand("jug 1;\n", -9, 6);
        badLand("person 0 0;".repeat(8), -7, 77);
        badLand("person 0 0;".repeat(7) + "person x", -7, 77);
        badLand("joke 0 1;".repeat(7), -7, 54);
        badLand("jug 1;".repeat(61), -7, 360);
        badLand("jug 1;".repeat(60) + "jugs", -9, 360);
        String streets = "street 0 1;street 0 2;street 0 3;street 0 4;street 0 5;street 0 6;"
            + "street 1 2;street 1 3;street 1 4;street 1 5;street 1 6;street 2 3;";
        due("3 twelve streets", 7, () -> land(x, "person 0 0;".repeat(7) + streets));
        badLand("person 0 0;".repeat(7) + streets + "street 2 4;", -7, 77 + 132);
        due("3 sixty clauses", 0, () -> land(x, "jug 1;".repeat(60)));
    }

    private static void promise4() {
        DimpleWells x = in("person 1 1;joke 3 10;");
        due("4 law", 1, () -> law(x, " 2+3 * 4 - 10/ 3 %2 "));
        due("4 value", 13, () -> x.laugh(0, 0));
        due("4 least, most", 1, () -> law(x, "least [ 7 , most [ 2 , 5 ] ] * ( strong - 9 )"));
        due("4 value", 5, () -> x.laugh(0, 0));
        law(x, "0 - 7 / 2 + 9");
        due("4 / binds first, and cuts", 6, () -> x.laugh(0, 0));
        law(x, "(0 - 7) % 4 + 9");
        due("4 % has the sign of what is divided", 6, () -> x.laugh(0, 0));
        law(x, "7 / 0 + 8 % 0 + 4");
        due("4 by 0", 4, () -> x.laugh(0, 0));
        law(x, "999 * 999 * 999 * 999 / 999 + 1");
        due("4 it wraps", Math.max(0, Math.min(40, 999 * 999 * 999 * 999 / 999 + 1)), () -> x.laugh(0, 0));
        law(x, "512 * 512 * 512 * 32 + 7");
        due("4 it wraps", 7, () -> x.laugh(0, 0));
        law(x, "(0-512*512*512*16)/(0-1)");
        due("4 the least by -1 wraps", 0, () -> x.laugh(0, 0));
        law(x, "most[0-3,0-4]+5");
        due("4 most", 2, () -> x.laugh(0, 0));
        law(x, "41");
        due("4 40 at most", 40, () -> x.laugh(0, 0));
        due("4 six open", 1, () -> law(x, "least[1,(most[2,(((3)))])]"));
        due("4 open and closed", 1, () -> law(x, "(((((1)))))+((((((2))))))"));
        due("4 n beyond the tape", IAE, () -> x.law(1));
        put(x, " ".repeat(160));
        due("4 n beyond 150", IAE, () -> x.law(151));
        due("4 the tape stays", 160, () -> x.count(1));
        due("4 blanks alone", -9, () -> x.law(150));
        due("4 at the length", 150, x::fault);
        due("4 a long one", 1, () -> law(x, "1" + "+1".repeat(25) + "+0".repeat(49)));
        due("4 value", 26, () -> x.laugh(0, 0));
        badLaw("", -9, 0);
        badLaw("1000", -8, 0);
        badLaw("1 1", -9, 2);
        badLaw("-1", -9, 0);
        badLaw("1+", -9, 2);
        badLaw("1 + * 2", -9, 4);
        badLaw("stronger", -9, 0);
        badLaw("least [1]", -9, 8);
        badLaw("least (1,2)", -9, 6);
        badLaw("most[1,2", -9, 8);
        badLaw("(1", -9, 2);
        badLaw("1)", -9, 1);
        badLaw("(((((((1)))))))", -7, 6);
        badLaw("((((((least", -7, 6);
        badLaw("least[least[least[least[least[least[most[", -7, 36);
        badLaw("least[1,((((((1", -7, 13);
        badLaw("least[((((((1", -7, 11);
        badLaw("((((((1(", -9, 7);
        badLaw("(((((( joke", -9, 7);
    }

    private static void promise5() {
        DimpleWells x = in(THREE);
        due("5 work", 5, () -> work(x, "tell 0 0;tell 1 0;tell 1 1;grieve 2 3;grieve 2 3;cheer 0;pour 30;day;"));
        due("5 refused", 3, () -> x.told(10));
        due("5 drunk up", 0, () -> x.told(4));
        due("5 not there", 3, () -> x.person(2, 3));
        due("5 grief is less", 2, () -> x.person(2, 2));
        due("5 pour", 0, () -> work(x, "pour 1;"));
        due("5 no text", 0, () -> work(x, ""));
        due("5 a work all the same", 3, () -> x.count(2));
        due("5 blanks", 2, () -> work(x, " again 2[ day ; ] ; again 0 [ day; ] ; "));
        DimpleWells y = in("person 3 1;joke 1 20;jug 200;drink 0;");
        law(y, "40");
        due("5 the jug has 999 at most", 60, () -> work(y, "again 30[tell 0 0;day;];"));
        due("5 the jug has 999 at most", 999, () -> y.told(4));
        due("5 200 steps", 199, () -> work(y, "again 60[day;day;day;day;];"));
        due("5 day", 229, () -> y.told(3));
        due("5 195 of 200 steps are days", 171, () -> work(y, "again 50[again 60[day;];];"));
        due("5 day 400 is the last", 400, () -> y.told(3));
        due("5 refused then", 24, () -> y.told(10));
        DimpleWells z = in("person 1 1;drink 3;jug 4;");
        work(z, "day;");
        due("5 who had all is not thirsty", 0, () -> z.person(0, 3));
        work(z, "again 50[day;];");
        due("5 thirst is 99 at most", 99, () -> z.person(0, 3));
        due("5 grieve more", 2, () -> work(z, "grieve 0 2;grieve 0 9;grieve 0 9;grieve 0 3;"));
        due("5 grief", 9, () -> z.person(0, 2));
        due("5 cheer", 1, () -> work(z, "cheer 0;cheer 0;"));
        due("5 refused", 1, () -> z.told(10));
        DimpleWells w = new DimpleWells();
        for (int i = 1; i <= 16; i++) {
            due("5 sixteen works", 1, () -> work(w, "pour 1;"));
        }
        put(w, "x");
        due("5 n is looked at first", IAE, () -> w.work(21));
        due("5 the 17th", -20, () -> w.work(1));
        due("5 no fault", -1, w::fault);
        due("5 empty then", 0, () -> w.count(1));
        due("5 undone", 15, w::undo);
        due("5 again", 0, () -> work(w, "again 20 [ again 20 [ pour 99;];];"));
        due("5 200 begun", 189, () -> w.told(10));
        put(w, " ".repeat(160));
        due("5 n beyond 150", IAE, () -> w.work(151));
        due("5 n below 0", IAE, () -> w.work(-1));
        badWork("tell 1 0;", -8, 5);
        badWork("tell 0 2;", -8, 7);
        badWork("grieve 2 1;", -8, 7);
        badWork("grieve 0 0;", -8, 9);
        badWork("grieve 0 10;", -8, 9);
        badWork("cheer 2;", -8, 6);
        badWork("pour 0;", -8, 5);
        badWork("pour 100;", -8, 5);
        badWork("again 61 [];", -8, 6);
        badWork("days;", -9, 0);
        badWork("dayz;", -9, 0);
        badWork("aday;", -9, 0);
        badWork("day", -9, 3);
        badWork("day;;", -9, 4);
        badWork("day;]", -9, 4);
        badWork("again 1 [day;", -9, 13);
        badWork("again 1 [day];", -9, 12);
        badWork("again 1 day;", -9, 8);
        badWork("again 1 []", -9, 10);
        badWork("tell 0 0;tell 0", -9, 15);
        badWork("again 1 [".repeat(7), -7, 54);
        badWork("again 1 [".repeat(6) + "again 61", -7, 54);
        badWork("day;".repeat(37) + "da", -9, 148);
        due("5 six open", 1, () -> work(in(""), "again 1[".repeat(6) + "day;" + "];".repeat(6)));
        due("5 37 steps", 37, () -> work(in(""), "day;".repeat(37)));
    }

    private static void promise6() {
        DimpleWells x = in("person 1 1;joke 1 7;joke 2 7;");
        due("6 book", 2, () -> book(x, " 1 40 ; 0 0 ; "));
        due("6 lines", 2, () -> x.told(9));
        due("6 another", 0, () -> book(x, ""));
        due("6 lines", 0, () -> x.told(9));
        put(x, " ".repeat(80));
        due("6 n beyond 60", IAE, () -> x.book(61));
        due("6 blanks", 0, () -> x.book(60));
        badBook("2 0;", -8, 0);
        badBook("0 41;", -8, 2);
        badBook("0 1;1 1;0 1;", -8, 8);
        badBook("0 1", -9, 3);
        badBook("0;", -9, 1);
        badBook("joke 0 1;", -9, 0);
        due("6 no jokes", -8, () -> book(in(""), "0 1;"));
    }

    private static void promise7() {
        DimpleWells x = new DimpleWells();
        land(x, "jug x;");
        due("7 fault", 4, x::fault);
        due("7 a refused call is no text", IAE, () -> x.law(1));
        due("7 fault", 4, x::fault);
        land(x, "jug 1;");
        due("7 none", -1, x::fault);
        law(x, "(");
        due("7 fault", 1, x::fault);
        work(x, "day");
        due("7 fault", 3, x::fault);
        book(x, "7 7;");
        due("7 fault", 0, x::fault);
        law(x, "1");
        due("7 none", -1, x::fault);
    }

    private static void promise8() {
        DimpleWells x = in(THREE);
        due("8 none", -1, x::undo);
        work(x, "tell 0 0;grieve 1 4;");
        work(x, "day;pour 99;pour 99;");
        due("8 undo", 1, x::undo);
        due("8 day", 0, () -> x.told(3));
        due("8 jug", 29, () -> x.told(4));
        due("8 told", 1, () -> x.told(8));
        due("8 refused", 0, () -> x.told(10));
        due("8 undo", 0, x::undo);
        due("8 grief", 0, () -> x.told(6));
        due("8 worn", 0, () -> x.worn(0, 0));
        due("8 times", 0, () -> x.joke(0, 2) + x.person(0, 5) + x.person(0, 6));
        due("8 none", -1, x::undo);
        work(x, "day;");
        work(x, "dax;");
        due("8 a text with a fault is none to undo", 0, x::undo);
    }

    private static void promise9() {
        DimpleWells x = in(THREE, "tell 0 0;grieve 1 3;grieve 1 3;cheer 0;");
        long[] due = {3, 3, 2, 0, 29, 4, 2, 0, 1, 0, 2, 0};
        for (int what = 0; what < due.length; what++) {
            int w = what;
            due("9 told " + what, due[what], () -> x.told(w));
        }
        due("9 another", IAE, () -> x.told(12));
        due("9 another", IAE, () -> x.told(-1));
        work(x, "again 4[day;];");
        due("9 thirsty", 7, () -> x.told(7));
        due("9 thirst", 19, () -> x.told(11));
        due("9 told", 0, () -> x.told(8));
        due("9 refused", 0, () -> x.told(10));
        book(x, "1 1;");
        due("9 lines", 1, () -> x.told(9));
        work(x, "pour 99;");
        work(x, "pour 100;");
        due("9 of the latest that was done", 1, () -> x.told(10));
        land(x, THREE);
        due("9 ahead of any", 0, () -> x.told(10));
    }

    private static void promise10() {
        DimpleWells x = in(THREE, "tell 0 0;tell 1 1;day;tell 0 0;grieve 1 3;");
        long[] due = {2, 3, 0, 0, 1, 2, 17, 2};
        for (int what = 0; what < due.length; what++) {
            int w = what;
            due("10 person " + what, due[what], () -> x.person(0, w));
        }
        due("10 grief", 3, () -> x.person(1, 2));
        due("10 not told", 0, () -> x.person(1, 4));
        due("10 near", 5, () -> x.person(1, 7));
        due("10 another", IAE, () -> x.person(0, 8));
        due("10 another", IAE, () -> x.person(0, -1));
        due("10 no such ahead", NSE, () -> x.person(3, 8));
        due("10 no such", NSE, () -> x.person(-1, 0));
    }

    private static void promise11() {
        DimpleWells x = in(THREE, "tell 1 0;tell 1 1;");
        due("11 K", 7, () -> x.joke(1, 0));
        due("11 S", 12, () -> x.joke(1, 1));
        due("11 told", 2, () -> x.joke(1, 2));
        due("11 another", IAE, () -> x.joke(1, 3));
        due("11 another", IAE, () -> x.joke(1, -1));
        due("11 no such", NSE, () -> x.joke(3, 3));
        due("11 no such", NSE, () -> x.joke(-1, 0));
    }

    private static void promise12() {
        DimpleWells x = in("person 1 1;person 1 1;person 1 1;street 2 0;street 1 2;");
        due("12 A", 2, () -> x.street(0, 0));
        due("12 B", 0, () -> x.street(0, 1));
        due("12 B", 2, () -> x.street(1, 1));
        due("12 another", IAE, () -> x.street(1, 2));
        due("12 no such", NSE, () -> x.street(2, 2));
        due("12 no such", NSE, () -> x.street(-1, 0));
    }

    private static void promise13() {
        DimpleWells x = in(THREE, "tell 1 0;tell 1 0;day;tell 1 0;tell 1 2;");
        due("13 worn", 2, () -> x.worn(1, 0));
        due("13 worn", 1, () -> x.worn(1, 2));
        due("13 not", 0, () -> x.worn(0, 0));
        due("13 no such", NSE, () -> x.worn(3, 0));
        due("13 no such", NSE, () -> x.worn(0, 3));
        due("13 no such", NSE, () -> x.worn(-1, 0));
    }

    private static void promise14() {
        DimpleWells x = in(THREE);
        due("14 laugh", 10, () -> x.laugh(0, 0));
        due("14 laugh", 4, () -> x.laugh(1, 0));
        due("14 0 at least", 0, () -> x.laugh(2, 0));
        due("14 no such", NSE, () -> x.laugh(3, 0));
        due("14 no such", NSE, () -> x.laugh(0, -1));
        work(x, "tell 0 0;tell 0 2;day;day;grieve 0 1;grieve 2 5;grieve 1 5;");
        String[] names = {"strong", "apart", "worn", "told", "dimples", "grief", "near", "thirst", "day", "person"};
        long[] due = {10, 5, 0, 2, 1, 5, 2, 0, 2, 1};
        for (int i = 0; i < names.length; i++) {
            law(x, names[i]);
            due("14 " + names[i], due[i], () -> x.laugh(0, 1));
        }
        law(x, "thirst");
        due("14 thirst", 0, () -> x.laugh(0, 0));
        work(x, "again 3[day;];");
        due("14 thirst now", x.person(2, 3), () -> x.laugh(0, 2));
    }

    private static void promise15() {
        DimpleWells x = in(THREE);
        due("15 water", 20, () -> x.water(0, 0));
        due("15 one dimple", 10, () -> x.water(1, 1));
        due("15 no dimples", 0, () -> x.water(0, 2));
        work(x, "tell 0 0;");
        due("15 told one this day", 14, () -> x.water(0, 0));
        due("15 no such", NSE, () -> x.water(3, 0));
        due("15 no such", NSE, () -> x.water(0, 3));
    }

    private static void promise16() {
        DimpleWells x = new DimpleWells();
        due("16 without a law", 2, () -> x.would(10, 2, 1, 5, 3, 1, 0, 0, 0, 0));
        law(x, "strong*2-apart+worn/100+told/50-dimples-grief+near+thirst/9+day/100+person");
        due("16 the greatest", 40, () -> x.would(20, 9, 999, 999, 3, 9, 6, 99, 400, 6));
        due("16 least", 2, () -> x.would(1, 0, 0, 0, 0, 0, 0, 0, 0, 0));
        due("16 strong", IAE, () -> x.would(0, 0, 0, 0, 0, 0, 0, 0, 0, 0));
        due("16 strong", IAE, () -> x.would(21, 0, 0, 0, 0, 0, 0, 0, 0, 0));
        due("16 apart", IAE, () -> x.would(1, 10, 0, 0, 0, 0, 0, 0, 0, 0));
        due("16 worn", IAE, () -> x.would(1, 0, 1000, 0, 0, 0, 0, 0, 0, 0));
        due("16 told", IAE, () -> x.would(1, 0, 0, 1000, 0, 0, 0, 0, 0, 0));
        due("16 dimples", IAE, () -> x.would(1, 0, 0, 0, 4, 0, 0, 0, 0, 0));
        due("16 grief", IAE, () -> x.would(1, 0, 0, 0, 0, 10, 0, 0, 0, 0));
        due("16 near", IAE, () -> x.would(1, 0, 0, 0, 0, 0, 7, 0, 0, 0));
        due("16 thirst", IAE, () -> x.would(1, 0, 0, 0, 0, 0, 0, 100, 0, 0));
        due("16 day", IAE, () -> x.would(1, 0, 0, 0, 0, 0, 0, 0, 401, 0));
        due("16 person", IAE, () -> x.would(1, 0, 0, 0, 0, 0, 0, 0, 0, 7));
        due("16 below", IAE, () -> x.would(1, -1, 0, 0, 0, 0, 0, 0, 0, 0));
        due("16 below", IAE, () -> x.would(1, 0, 0, 0, 0, 0, 0, 0, 0, -1));
        due("16 below", IAE, () -> x.would(1, 0, -1, 0, 0, 0, 0, 0, 0, 0));
        due("16 below", IAE, () -> x.would(1, 0, 0, -1, 0, 0, 0, 0, 0, 0));
        due("16 below", IAE, () -> x.would(1, 0, 0, 0, -1, 0, 0, 0, 0, 0));
        due("16 below", IAE, () -> x.would(1, 0, 0, 0, 0, -1, 0, 0, 0, 0));
        due("16 below", IAE, () -> x.would(1, 0, 0, 0, 0, 0, -1, 0, 0, 0));
        due("16 below", IAE, () -> x.would(1, 0, 0, 0, 0, 0, 0, -1, 0, 0));
        due("16 below", IAE, () -> x.would(1, 0, 0, 0, 0, 0, 0, 0, -1, 0));
        due("16 counted", 20, () -> x.status(1));
        String[] names = {"strong", "apart", "worn", "told", "dimples", "grief", "near", "thirst", "day", "person"};
        long[] due = {11, 9, 12, 13, 3, 8, 6, 17, 18, 5};
        for (int i = 0; i < names.length; i++) {
            law(x, names[i]);
            due("16 " + names[i], due[i], () -> x.would(11, 9, 12, 13, 3, 8, 6, 17, 18, 5));
        }
    }

    private static void promise17() {
        DimpleWells x = in(THREE);
        due("17 now", 9, () -> x.ahead(0, 0));
        due("17 jug", 0, () -> x.ahead(1, 0));
        due("17 thirsty", 4, () -> x.ahead(1, 1));
        due("17 thirst", 3, () -> x.ahead(1, 2));
        due("17 thirst", 15, () -> x.ahead(2, 2));
        due("17 99 each", 297, () -> x.ahead(99, 2));
        due("17 nothing stays", 0, () -> x.told(3) + x.told(11));
        due("17 n", IAE, () -> x.ahead(100, 0));
        due("17 n", IAE, () -> x.ahead(-1, 0));
        due("17 what", IAE, () -> x.ahead(1, 3));
        work(x, "again 2[again 60[day;];];");
        work(x, "again 60[day;day;day;];");
        work(x, "again 60[day;day;];");
        due("17 on day 400", 400, () -> x.told(3));
        work(x, "grieve 0 2;");
        DimpleWells y = in("person 1 1;person 1 1;jug 200;drink 1;", "again 60[day;day;];");
        due("17 thirst", 40, () -> y.ahead(0, 2));
        due("17 thirst", 42, () -> y.ahead(1, 2));
        DimpleWells z = in("person 1 1;joke 1 20;jug 0;drink 9;", "day;tell 0 0;");
        due("17 who has all of it", 0, () -> z.ahead(1, 2));
        due("17 what is left", 11, () -> z.ahead(1, 0));
        due("17 beyond 400", 1, () -> {
            DimpleWells u = in("person 1 1;drink 1;jug 200;", "again 60[day;day;day;];");
            work(u, "again 60[day;day;day;];");
            work(u, "again 60[day;];");
            return u.told(3) == 400 && u.ahead(1, 2) == 99 && u.told(11) == 99 ? 1 : 0;
        });
    }

    private static void promises18And19() {
        DimpleWells x = in(THREE);
        due("18 best", 30, x::best);
        due("19 given", 0, () -> x.given(0));
        due("19 given", 1, () -> x.given(1));
        due("19 for nothing, too", 2, () -> x.given(2));
        due("19 no such", NSE, () -> x.given(3));
        due("19 no such", NSE, () -> x.given(-1));
        work(x, "tell 0 0;");
        due("18 who was not told", 10, x::best);
        due("19 given", 2, () -> x.given(0));
        due("19 given", 1, () -> x.given(1));
        due("19 none is left", -1, () -> x.given(2));
        DimpleWells y = in("person 3 5;person 2 5;person 1 0;joke 5 4;joke 5 9;joke 0 9;");
        due("18 the strongest to most dimples", 27 + 8 + 9, y::best);
        due("19 given", 1, () -> y.given(0));
        due("19 given", 0, () -> y.given(1));
        due("19 given", 2, () -> y.given(2));
        DimpleWells z = in("person 2 5;person 2 5;joke 5 4;joke 5 4;joke 5 9;");
        due("18 one joke is left", 26, z::best);
        due("19 of alike ways the first", 0, () -> z.given(0));
        due("19 none last", -1, () -> z.given(1));
        due("19 given", 1, () -> z.given(2));
        due("18 no persons", 0, in("joke 1 1;")::best);
        due("19 no persons", -1, () -> in("joke 1 1;").given(0));
    }

    private static void promise20() {
        DimpleWells x = in(THREE);
        due("20 it is there", 0, () -> x.enough(9));
        due("20 one", 1, () -> x.enough(10));
        due("20 one", 1, () -> x.enough(29));
        due("20 two", 3, () -> x.enough(30));
        due("20 two", 3, () -> x.enough(39));
        due("20 none", -1, () -> x.enough(40));
        due("20 n", IAE, () -> x.enough(1000));
        due("20 n", IAE, () -> x.enough(-1));
        DimpleWells y = in("person 1 1;person 2 1;person 3 1;joke 1 10;jug 0;");
        due("20 the least bits", 1, () -> y.enough(10));
        due("20 the least bits", 2, () -> y.enough(11));
        due("20 one", 4, () -> y.enough(30));
        due("20 by one joke two", 6, () -> y.enough(50));
        due("20 the least bits", 5, () -> y.enough(31));
        due("20 fewer ahead of least bits", 4, () -> y.enough(21));
        work(y, "tell 0 2;");
        due("20 told one", -1, () -> y.enough(61));
        due("20 told one", 3, () -> y.enough(60));
        due("20 0", 0, () -> in("jug 0;").enough(0));
    }

    private static void promises21And22() {
        DimpleWells x = in(THREE);
        due("21 lasts", 4, () -> x.lasts(0, 0));
        due("22 well", 44, () -> x.well(0, 0));
        due("21 not at all", 0, () -> x.lasts(2, 0));
        due("22 not at all", 0, () -> x.well(2, 0));
        due("21 without dimples", 4, () -> x.lasts(0, 2));
        due("22 without dimples", 0, () -> x.well(0, 2));
        work(x, "tell 0 0;");
        due("21 told today", 3, () -> x.lasts(0, 0));
        due("22 told today", 24, () -> x.well(0, 0));
        law(x, "7 - told * 2 + worn");
        due("21 both are more", 6, () -> x.lasts(0, 0));
        due("22 both are more", (6 + 5 + 4 + 3 + 2 + 1) * 2, () -> x.well(0, 0));
        due("21 told of all", 5, () -> x.lasts(0, 1));
        law(x, "3");
        due("21 99 at most", 99, () -> x.lasts(0, 0));
        due("22 of these", 99 * 3 * 2, () -> x.well(0, 0));
        law(x, "98 - worn");
        due("21 98", 97, () -> x.lasts(0, 0));
        due("21 no such", NSE, () -> x.lasts(3, 0));
        due("22 no such", NSE, () -> x.well(0, 3));
        due("21 nothing stays", 1, () -> x.worn(0, 0));
    }

    private static void promises23And24() {
        DimpleWells x = in(THREE);
        due("23 all", 100, () -> x.fits(0, 0));
        due("23 first", 0, () -> x.fits(0, 1));
        due("24 look", 1, () -> x.look(0, 0));
        due("24 worst", 42, () -> x.look(0, 1));
        book(x, "0 10;");
        due("23 one", 1, () -> x.fits(0, 0));
        due("23 it", 30, () -> x.fits(0, 1));
        due("24 of alike the first", 1, () -> x.look(0, 0));
        due("24 one is left", 1, () -> x.look(0, 1));
        book(x, "0 8;");
        due("23 three", 3, () -> x.fits(0, 0));
        due("23 first by taste", 20, () -> x.fits(0, 1));
        due("24 joke 1 tells 4 0 from 2 0 and 3 2", 1, () -> x.look(0, 0));
        due("24 worst", 2, () -> x.look(0, 1));
        book(x, "0 8;1 4;");
        due("23 none", 0, () -> x.fits(0, 0));
        due("23 none", -1, () -> x.fits(0, 1));
        due("24 the one that is left", 2, () -> x.look(0, 0));
        due("24 no pairs", 0, () -> x.look(0, 1));
        book(x, "2 1;0 8;1 4;");
        due("24 all are in lines", -1, () -> x.look(0, 0));
        due("24 all are in lines", -1, () -> x.look(0, 1));
        due("23 no such ahead", NSE, () -> x.fits(3, 2));
        due("23 what", IAE, () -> x.fits(0, 2));
        due("24 no such ahead", NSE, () -> x.look(-1, 2));
        due("24 what", IAE, () -> x.look(0, -1));
        DimpleWells y = in("person 1 1;");
        due("24 no jokes", -1, () -> y.look(0, 0));
        due("24 no jokes", -1, () -> y.look(0, 1));
        DimpleWells z = in(THREE, "grieve 1 5;grieve 0 4;tell 0 0;");
        law(z, "near * 10 + grief - worn");
        book(z, "0 13;");
        due("23 all else as now", 10, () -> z.fits(0, 0));
        due("23 grief 4", 4, () -> z.fits(0, 1));
        due("23 nothing stays", 4, () -> z.person(0, 2));
    }

    private static void promise25() {
        DimpleWells x = in("person 1 1;".repeat(5) + "street 0 1;street 1 2;street 2 3;");
        due("25 nobody", 0, x::comfort);
        work(x, "grieve 2 5;");
        due("25 the least bits", 2, x::comfort);
        work(x, "grieve 0 9;");
        due("25 one for both", 2, x::comfort);
        work(x, "grieve 3 9;");
        due("25 two", 5, x::comfort);
        work(x, "cheer 0;cheer 2;grieve 4 2;");
        due("25 alone", 20, x::comfort);
        work(x, "day;day;");
        due("25 grief went by", 4, x::comfort);
    }

    private static void promise26() {
        DimpleWells x = in("person 1 1;".repeat(7) + "street 0 1;street 1 2;street 2 3;street 3 4;street 4 5;");
        due("26 itself", 0, () -> x.way(6, 6));
        due("26 next", 1, () -> x.way(1, 0));
        due("26 far", 5, () -> x.way(0, 5));
        due("26 none", -1, () -> x.way(0, 6));
        due("26 no such", NSE, () -> x.way(0, 7));
        due("26 no such", NSE, () -> x.way(-1, 0));
        due("26 six", 6, () -> in("person 1 1;".repeat(7)
            + "street 0 1;street 1 2;street 2 3;street 3 4;street 4 5;street 5 6;").way(6, 0));
        due("26 the shorter", 2, () -> in("person 1 1;".repeat(5)
            + "street 0 1;street 1 2;street 2 3;street 3 4;street 4 0;").way(0, 3));
    }

    private static void promise27() {
        due("27 no persons", -1, in("")::dry);
        due("27 first", 1, in("person 1 1;jug 0;")::dry);
        due("27 sixth", 6, in("person 1 1;jug 5;drink 1;")::dry);
        due("27 drink 0", -1, in("person 1 1;jug 0;drink 0;")::dry);
        due("27 now", 0, in("person 1 1;jug 0;", "day;")::dry);
        due("27 99", 99, in("person 1 1;jug 98;drink 1;")::dry);
        due("27 beyond 99", -1, in("person 1 1;jug 99;drink 1;")::dry);
        DimpleWells x = in("person 1 1;jug 3;drink 2;");
        due("27 a part", 2, x::dry);
        due("27 nothing stays", 3, () -> x.told(4));
    }

    private static void promise28() {
        DimpleWells x = new DimpleWells();
        due("28 rests", 1, () -> x.comedians(10, 0, 3, 0));
        due("28 first", 22, () -> x.comedians(10, 0, 3, 1));
        due("28 together", 10, () -> x.comedians(10, 0, 3, 2));
        due("28 rests", 4, () -> x.comedians(10, 5, 5, 0));
        due("28 first", 0, () -> x.comedians(10, 5, 5, 1));
        due("28 cut", 8, () -> x.comedians(9, 20, 1, 2));
        due("28 none", 0, () -> x.comedians(10, 4, 3, 0));
        due("28 without", 0, () -> x.comedians(10, 4, 6, 0));
        due("28 without", -1, () -> x.comedians(10, 4, 6, 1));
        due("28 without", 0, () -> x.comedians(10, 4, 6, 2));
        due("28 v", IAE, () -> x.comedians(100, 0, 1, 0));
        due("28 v", IAE, () -> x.comedians(-1, 0, 1, 0));
        due("28 w", IAE, () -> x.comedians(1, 21, 1, 0));
        due("28 w", IAE, () -> x.comedians(1, -1, 1, 0));
        due("28 n", IAE, () -> x.comedians(1, 1, 0, 0));
        due("28 n", IAE, () -> x.comedians(1, 1, 7, 0));
        due("28 what", IAE, () -> x.comedians(1, 1, 1, 3));
    }

    private static void promise29() {
        DimpleWells x = new DimpleWells();
        due("29 above", 3, () -> x.some(2, 1, 8, 0));
        due("29 below", 4, () -> x.some(2, 1, 8, 1));
        due("29 all", 1, () -> x.some(12, 0, 5, 0));
        due("29 all", 1, () -> x.some(12, 0, 5, 1));
        due("29 none", 0, () -> x.some(12, 13, 5, 0));
        due("29 none", 1, () -> x.some(12, 13, 5, 1));
        due("29 never", 0, () -> x.some(3, 1, 0, 0));
        due("29 surely", 1, () -> x.some(12, 12, 16, 1));
        due("29 twelve", 244140625, () -> x.some(12, 12, 5, 0));
        due("29 twelve", 281474976710656L, () -> x.some(12, 12, 5, 1));
        due("29 least terms", 5, () -> x.some(4, 3, 8, 0));
        due("29 least terms", 16, () -> x.some(4, 3, 8, 1));
        due("29 n", IAE, () -> x.some(13, 0, 0, 0));
        due("29 k", IAE, () -> x.some(0, 14, 0, 0));
        due("29 q", IAE, () -> x.some(0, 0, 17, 0));
        due("29 part", IAE, () -> x.some(0, 0, 0, 2));
        due("29 below 0", IAE, () -> x.some(-1, 0, 0, 0));
    }

    private static void promise30() {
        DimpleWells x = in("person 1 1;person 1 1;person 1 1;drink 9;jug 25;", "day;day;");
        due("30 thirst", 9 + 9 + 11, () -> x.told(11));
        due("30 thirst", 11, () -> x.person(2, 3));
        due("30 levelled", 9, () -> x.share(2, 7, 27));
        due("30 levelled", 10, () -> x.share(2, 7, 28));
        due("30 all", 11, () -> x.share(2, 7, 29));
        due("30 bound", 9, () -> x.share(0, 7, 28));
        due("30 bound", 3, () -> x.share(0, 7, 11));
        due("30 bound", 3, () -> x.share(2, 7, 11));
        due("30 two", 5, () -> x.share(2, 6, 11));
        due("30 none of them", 0, () -> x.share(0, 6, 99));
        due("30 nobody", 0, () -> x.share(0, 0, 99));
        due("30 nothing", 0, () -> x.share(0, 7, 0));
        due("30 alone", 10, () -> x.share(2, 4, 10));
        due("30 no such ahead", NSE, () -> x.share(3, 8, 1000));
        due("30 bits", IAE, () -> x.share(0, 8, 1));
        due("30 bits", IAE, () -> x.share(0, -1, 1));
        due("30 n", IAE, () -> x.share(0, 7, 1000));
        due("30 n", IAE, () -> x.share(0, 7, -1));
    }

    private static void promise31() {
        DimpleWells x = in(THREE);
        due("31 likes", 0, () -> x.likes(0, 0));
        due("31 laugh", 10, () -> x.likes(0, 1));
        due("31 likes", 1, () -> x.likes(1, 0));
        law(x, "0");
        due("31 of alike the first", 0, () -> x.likes(1, 0));
        due("31 laugh", 0, () -> x.likes(1, 1));
        law(x, "told+1");
        work(x, "tell 2 0;tell 1 1;");
        due("31 now", 1, () -> x.likes(2, 0));
        due("31 none", -1, () -> in("person 1 1;").likes(0, 0));
        due("31 none", -1, () -> in("person 1 1;").likes(0, 1));
        due("31 no such ahead", NSE, () -> x.likes(3, 2));
        due("31 what", IAE, () -> x.likes(0, 2));
    }

    private static void promise32() {
        DimpleWells x = in(THREE);
        due("32 solemn", 2, () -> x.solemn(0));
        due("32 solemn", 7, () -> x.solemn(2));
        work(x, "grieve 0 9;tell 0 2;");
        law(x, "strong - apart * 2 - worn * 7 - grief");
        due("32 solemn", 2, () -> x.solemn(0));
        law(x, "strong - apart * 2 - worn * 7 - grief - 3");
        due("32 solemn", 7, () -> x.solemn(0));
        due("32 no such", NSE, () -> x.solemn(3));
        due("32 no persons", 0, () -> in("joke 1 1;").solemn(0));
    }

    private static void promise33() {
        DimpleWells x = in("person 1 1;person 1 1;person 1 1;drink 4;jug 5;");
        due("33 none", -1, () -> x.driest(0));
        due("33 none", -1, () -> x.driest(1));
        work(x, "day;");
        due("33 driest", 2, () -> x.driest(0));
        due("33 thirst", 4, () -> x.driest(1));
        due("33 what", IAE, () -> x.driest(2));
        DimpleWells y = in("person 1 1;person 1 1;jug 0;", "day;");
        due("33 of alike the first", 0, () -> y.driest(0));
    }

    private static void promise34() {
        due("34 none", 0, in("")::parts);
        due("34 single ones", 3, in("person 1 1;".repeat(3))::parts);
        due("34 one", 1, in(THREE)::parts);
        due("34 three", 3, in("person 1 1;".repeat(7) + "street 0 6;street 6 2;street 3 5;street 5 1;")::parts);
        due("34 a row", 1, in("person 1 1;".repeat(7)
            + "street 0 6;street 6 1;street 1 5;street 5 2;street 2 4;street 4 3;")::parts);
    }

    private static void promise35() {
        DimpleWells x = in("person 1 5;person 0 3;person 1 3;person 1 5;person 2 3;");
        due("35 pairs", 4, () -> x.alike(0));
        due("35 first", 3, () -> x.alike(1));
        DimpleWells y = in("person 1 1;person 1 2;person 1 2;");
        due("35 first", 12, () -> y.alike(1));
        due("35 none", 0, () -> in("person 1 1;person 1 2;").alike(0));
        due("35 none", -1, () -> in("person 1 1;person 1 2;").alike(1));
        due("35 what", IAE, () -> x.alike(2));
    }

    private static int drawn(int seed, int by) {
        return (seed >>> 16 & 0x7FFF) % by;
    }

    private static int after(int seed) {
        return seed * 1103515245 + 12345;
    }

    private static void promises36And37() {
        DimpleWells x = in(THREE);
        int s = 5;
        int s1 = after(s);
        int s2 = after(s1);
        int s3 = after(s2);
        int laugh = x.laugh(drawn(s1, 3), drawn(s2, 3));
        int q = drawn(s3, 16);
        int one = 1 << drawn(s2, 3);
        due("36 laughed", laugh, () -> x.year(5, 1, 0, 1));
        due("36 jug", Math.max(0, 9 + x.water(drawn(s1, 3), drawn(s2, 3)) - 12), () -> x.year(5, 1, 0, 0));
        due("36 grieves", one, () -> x.year(5, 1, q + 1, 3));
        due("36 grieves not", 0, () -> x.year(5, 1, q, 3));
        due("36 thirst", Math.max(0, 12 - 9 - x.water(drawn(s1, 3), drawn(s2, 3))), () -> x.year(5, 1, 0, 2));
        due("36 nothing stays", 9, () -> x.told(4) + x.told(3) + x.told(6));
        DimpleWells y = in("person 1 1;joke 1 9;", "tell 0 0;");
        due("36 told this day", 6, () -> y.year(1, 2, 0, 1));
        due("36 grief of 3 is grief of 2", 1, () -> y.year(1, 96, 16, 3));
        DimpleWells z = in("person 1 1;jug 5;drink 1;");
        due("36 without jokes", 2, () -> z.year(3, 7, 16, 2));
        due("36 nothing is drawn", 0, () -> z.year(3, 7, 16, 3));
        due("36 without persons", 20, () -> in("joke 1 1;").year(3, 7, 16, 0));
        DimpleWells u = in("person 1 1;joke 1 9;", "again 60[day;day;day;];");
        work(u, "again 60[day;day;day;];");
        work(u, "again 60[day;];");
        law(u, "day - 399");
        due("36 beyond 400", 1 + 2 + 3, () -> u.year(1, 3, 0, 1));
        due("36 days", IAE, () -> x.year(1, 0, 0, 0));
        due("36 days", IAE, () -> x.year(1, 97, 0, 0));
        due("36 q", IAE, () -> x.year(1, 1, 17, 0));
        due("36 q", IAE, () -> x.year(1, 1, -1, 0));
        due("36 what", IAE, () -> x.year(1, 1, 0, 4));
        int least = 999;
        int most = 0;
        int thirsty = 0;
        int seed = Integer.MAX_VALUE - 2;
        for (int i = 0; i < 6; i++) {
            int jug = x.year(seed + i, 4, 9, 0);
            least = Math.min(least, jug);
            most = Math.max(most, jug);
            thirsty += x.year(seed + i, 4, 9, 2) > 0 ? 1 : 0;
        }
        due("37 least", least, () -> x.span(seed, 6, 4, 9, 0, 0));
        due("37 most", most, () -> x.span(seed, 6, 4, 9, 1, 2));
        due("37 thirsty", thirsty, () -> x.span(seed, 6, 4, 9, 2, 2));
        due("37 always", 20, () -> z.span(1, 20, 6, 0, 2, 0));
        due("37 never", 0, () -> z.span(1, 20, 5, 0, 2, 0));
        due("37 no such", IAE, () -> x.span(1, 1, 1, 0, 0, 3));
        due("37 no such", IAE, () -> x.span(1, 1, 1, 0, 1, -1));
        due("37 many", IAE, () -> x.span(1, 0, 1, 0, 0, 0));
        due("37 many", IAE, () -> x.span(1, 21, 1, 0, 0, 0));
        due("37 days", IAE, () -> x.span(1, 1, 97, 0, 0, 0));
        due("37 q", IAE, () -> x.span(1, 1, 1, 17, 0, 0));
        due("37 what", IAE, () -> x.span(1, 1, 1, 0, 3, 0));
    }

    private static void promises38And39() {
        DimpleWells x = in(THREE, "tell 0 0;");
        due("39 none", -1, x::restore);
        due("38 image", 1, x::image);
        work(x, "tell 1 1;day;pour 99;");
        due("38 image", 2, x::image);
        due("38 image", 3, x::image);
        due("38 there are 3", -1, x::image);
        x.undo();
        x.undo();
        law(x, "5");
        book(x, "0 7;");
        due("39 restore", 2, x::restore);
        due("39 works", 2, () -> x.count(2));
        due("39 day", 1, () -> x.told(3));
        due("39 refused", 0, () -> x.told(10));
        due("39 the law stays", 5, () -> x.laugh(2, 2));
        due("39 the book stays", 1, () -> x.told(9));
        due("39 undo from there", 1, x::undo);
        due("39 undone", 29, () -> x.told(4));
        due("39 restore", 1, x::restore);
        work(x, "day;day;pour 99;");
        work(x, "grieve 0 5;");
        due("39 restore the first", 0, x::restore);
        due("39 works", 1, () -> x.count(2));
        due("39 told", 1, () -> x.told(8));
        due("39 grief", 0, () -> x.told(6));
        due("39 undo", 0, x::undo);
        due("39 the beginning", 9, () -> x.told(4));
        due("39 none", -1, x::restore);
        due("38 again", 1, x::image);
        work(x, "pour 99;pour 99;");
        due("39 one without works", 0, x::restore);
        due("39 works", -1, x::undo);
        work(x, "pour 99;pour 99;");
        due("39 none", -1, x::restore);
        due("39 none does nothing", 2, () -> x.told(10));
        DimpleWells y = in(THREE, "pour 1;");
        work(y, "pour 2;");
        y.image();
        y.undo();
        y.undo();
        work(y, "pour 9;");
        work(y, "day;");
        work(y, "day;");
        due("39 with its works", 0, y::restore);
        due("39 with its works", 1, y::undo);
        due("39 as they were", 8, () -> y.told(4));
        due("39 with its works", 0, y::undo);
        due("39 as they were", 9, () -> y.told(4));
    }

    private static void promise40() {
        DimpleWells x = in(THREE);
        due("40 none", 0, () -> x.status(0) + x.status(1));
        x.image();
        of(() -> x.person(9, 9));
        of(() -> x.way(9, 9));
        of(() -> x.share(0, 8, 1000));
        of(() -> x.law(-1));
        of(() -> x.would(0, 99, 0, 0, 0, 0, 0, 0, 0, 0));
        x.restore();
        land(x, "jug x");
        land(x, THREE);
        due("40 no such", 2, () -> x.status(0));
        due("40 wrong", 3, () -> x.status(1));
        due("40 others", -1, () -> x.status(2));
        due("40 others", -1, () -> x.status(-1));
        due("40 others are not refused", 3, () -> x.status(1));
    }

    private static void promise41() {
        DimpleWells x = in(THREE, "day;");
        x.image();
        put(x, "day;");
        due("41 images", 1, () -> x.count(0));
        due("41 bytes", 20, () -> x.count(1));
        due("41 works", 1, () -> x.count(2));
        due("41 others", -1, () -> x.count(3));
        due("41 others", -1, () -> x.count(-1));
        due("41 not refused", 0, () -> x.status(1));
    }

    public static void main(String[] args) {
        promise1();
        promise2();
        promise3();
        promise4();
        promise5();
        promise6();
        promise7();
        promise8();
        promise9();
        promise10();
        promise11();
        promise12();
        promise13();
        promise14();
        promise15();
        promise16();
        promise17();
        promises18And19();
        promise20();
        promises21And22();
        promises23And24();
        promise25();
        promise26();
        promise27();
        promise28();
        promise29();
        promise30();
        promise31();
        promise32();
        promise33();
        promise34();
        promise35();
        promises36And37();
        promises38And39();
        promise40();
        promise41();
        System.out.println(wrong == 0 ? "all answers are as due" : wrong + " answers are not as due");
        if (wrong != 0) {
            System.exit(1);
        }
    }
}
