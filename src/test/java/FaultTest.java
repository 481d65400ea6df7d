/** Texts, each with the fault that is due and its place: promises 3 and 4, and what the language allows. */
public final class FaultTest {
    private static final Check CHECK = new Check();

    private static void fault(int kind, int place, String text) {
        BalconyPort x = Check.of("balcony 1 1 1 1;");
        CHECK.due("port of " + text, kind, () -> Check.port(x, text));
        CHECK.due("fault of " + text, place, x::fault);
        CHECK.due("refused texts after " + text, kind == 0 ? 0 : 1, () -> x.count(16));
        CHECK.due("bytes of the tape after " + text, 0, () -> x.count(15));
        if (kind != 0) {
            CHECK.due("all stays after " + text, 1, () -> x.count(0));
        }
    }

    private static void fine(String text) {
        fault(0, -1, text);
    }

    /** A rule that is fine, and whether it takes the one balcony (iron 7, pots 3), whose street has none else. */
    private static void rule(boolean takes, String rule) {
        BalconyPort x = Check.of("balcony 7 2 3 0; wall 1 1; wall 2 2; times 4 6; goes " + rule + ";");
        CHECK.due("goes " + rule, takes ? 1 : 0, () -> x.balcony(0, 7));
    }

    public static void main(String[] args) {
        lines();
        numbers();
        tooMany();
        exprs();
        deep();
        values();
        CHECK.end("FaultTest");
    }

    private static void lines() {
        fine("");
        fine("  \n ");
        fine("balcony1 1 0 0;wall1 0;ship 1 1 1;times0;goes 1;");
        fine("goes\n1\n;\nship 99 9 9 ; times 9 9 9 9 9 9 9 9 9 9;");
        fault(1, 0, ";");
        fault(1, 0, "`;");
        fault(1, 0, "{;");
        fault(1, 0, "/;");
        fault(1, 0, ":;");
        fault(1, 0, "x");
        fault(1, 0, "balconyx 1 1 1 1;");
        fault(1, 0, "Balcony 1 1 1 1;");
        fault(1, 0, "5;");
        fault(1, 1, " \t");
        fault(1, 3, "   \r");
        fault(1, 0, "" + (char) 0);
        fault(1, 0, "" + (char) 255);
        fault(1, 7, "balcony");
        fault(1, 9, "balcony  ");
        fault(1, 15, "balcony 1 1 1 1");
        fault(1, 14, "balcony 1 1 1 ;");
        fault(1, 16, "balcony 1 1 1 1 1;");
        fault(1, 8, "balcony pots 1 1 1;");
        fault(1, 8, "balcony -1 1 1 1;");
        fault(1, 9, "ship 1 1 ;");
        fault(1, 6, "times ;");
        fault(1, 5, "times");
        fault(1, 8, "times 1 x;");
        fault(1, 9, "times 1 2wall 1 1;");
        fault(1, 8, "wall 1 1wall 1 1;");
        fault(5, 11, "ship 1 1 1;ship 1 1 1;");
        fault(5, 8, "times 1;times 1;");
        fault(5, 8, "goes 1; goes 1;");
        fault(1, 8, "goes 1; not 1;");
        fault(2, 5, "wall 0 0; x");
        fault(1, 10, "wall 1 0; x 0");
    }

    private static void numbers() {
        fine("balcony 1 1 0 0; balcony 20 9 9 3; balcony 0020 0009 0000 0003;");
        fine("wall 1 0; wall 9 20; ship 1 1 1;");
        fault(2, 8, "balcony 0 1 0 0;");
        fault(2, 8, "balcony 21 1 0 0;");
        fault(2, 10, "balcony 1 0 0 0;");
        fault(2, 10, "balcony 1 10 0 0;");
        fault(2, 12, "balcony 1 1 10 0;");
        fault(2, 14, "balcony 1 1 1 4;");
        fault(2, 14, "balcony 1 1 1 00001;");
        fault(2, 5, "wall 10 1;");
        fault(2, 7, "wall 1 21;");
        fault(2, 5, "ship 0 1 1;");
        fault(2, 5, "ship 100 1 1;");
        fault(2, 7, "ship 1 0 1;");
        fault(2, 7, "ship 1 10 1;");
        fault(2, 9, "ship 1 1 0;");
        fault(2, 9, "ship 1 1 10;");
        fault(2, 6, "times 10;");
        fault(2, 8, "times 1 99999999999999999999;");
        fault(1, 0, "99999;");
        fault(1, 16, "balcony 1 1 1 1 99999;");
    }

    private static void tooMany() {
        String ten = "balcony 1 1 1 1;".repeat(10);
        fine(ten);
        fault(2, 160, ten + "balcony x");
        fault(2, 160, ten + "balcony 1 1 1 1;");
        String walls = "wall 1 1;".repeat(10);
        fine(walls);
        fault(2, 90, walls + "wall 1 1;");
        fault(2, 26, "times 1 2 3 4 5 6 7 8 9 0 1;");
        fault(2, 26, "times 1 2 3 4 5 6 7 8 9 0 12345;");
        fault(1, 26, "times 1 2 3 4 5 6 7 8 9 0 x;");
        fault(2, 22, "times 1 2 3 4 5 6 7 8 10 1;");
    }

    private static void exprs() {
        fine("goes 0;");
        fine("goes 9999*(1+2)/3-4<5 and not 6=7 or day;");
        fine("goes times+pots+iron+gone+beside+free+day;");
        fault(1, 5, "goes ;");
        fault(1, 4, "goes");
        fault(1, 5, "goes -1;");
        fault(1, 5, "goes )");
        fault(1, 7, "goes 1 1;");
        fault(1, 7, "goes 1 pots;");
        fault(1, 7, "goes 1 not 1;");
        fault(1, 9, "goes 1 <2=3;");
        fault(1, 8, "goes 1<2<3;");
        fault(1, 6, "goes 1");
        fault(1, 7, "goes (1");
        fault(1, 7, "goes (1;");
        fault(1, 6, "goes ();");
        fault(1, 7, "goes 1+;");
        fault(1, 7, "goes 1*+1;");
        fault(1, 6, "goes 1);");
        fault(2, 5, "goes 10000;");
        fault(2, 5, "goes 00000;");
        fault(2, 7, "goes 1+12345;");
        fault(1, 6, "goes 1,2;");
        fault(3, 5, "goes x;");
        fault(3, 5, "goes zz;");
        fault(3, 5, "goes az;");
        fault(3, 5, "goes potsa;");
        fault(3, 5, "goes pot;");
        fault(3, 5, "goes or 1;");
        fault(3, 5, "goes and;");
        fault(3, 5, "goes balcony;");
        fault(3, 7, "goes 1+not 1;");
        fault(3, 7, "goes 1<not 1;");
        fault(3, 9, "goes not or;");
        fault(1, 7, "goes 1 orand 1;");
        fault(3, 11, "goes 1 and and 1;");
        fault(3, 6, "goes (wall);");
        fault(3, 5, "goes goes 1;");
    }

    private static void deep() {
        fine("goes (((((1)))));");
        fine("goes (((((not 1+1)))));");
        fault(2, 11, "goes ((((((1))))));");
        fault(2, 11, "goes ((((((x))))));");
        fault(2, 11, "goes ((((((not 1))))));");
        fault(2, 11, "goes ((((((12345))))));");
        fault(2, 11, "goes (((((((1)))))));");
        fault(1, 11, "goes (((((())))));");
        fault(1, 11, "goes ((((((+");
        fault(1, 11, "goes ((((((");
        fault(1, 11, "goes ((((((;");
        fault(2, 13, "goes 1+((((((1))))));");
        fine("goes (1)+(1)*(1)+(1)+(1)+(1)+(1)+(1);");
        fine("goes not not not not not not 1;");
        fault(2, 29, "goes not not not not not not not 1;");
        fault(2, 29, "goes not not not not not not not");
        fault(3, 29, "goes not not not not not not nor");
        fine("goes not not not not not not (not not not not not not 1);");
        fine("goes not not not not not not 1 and not not not not not not 1 or not 1;");
        // 700 bytes are as many as a tape has
        fine("goes " + "1+".repeat(346) + "1 ;");
        fine("goes " + "1-".repeat(300) + "(((((1/0)))));");
    }

    private static void values() {
        rule(true, "1");
        rule(false, "0");
        rule(false, "0-1");
        rule(true, "times=4 and pots=3 and iron=7 and gone=0 and beside=0 and free=2 and day=0");
        rule(true, "10-4-3=3");
        rule(true, "2+3*4=14");
        rule(true, "(2+3)*4=20");
        rule(true, "100/7/2=7");
        rule(true, "(0-7)/2=0-3");
        rule(true, "7/0=0");
        rule(true, "7/(1-1)+1");
        rule(true, "9999*9999*9999<0");
        rule(true, "2048*1024*1024<0");
        rule(true, "(2048*1024*1024)/(0-1)<0");
        rule(true, "not 0");
        rule(false, "not 5");
        rule(true, "not 5 = 0");
        rule(false, "not (5 = 5)");
        rule(true, "not not 5 = 5");
        rule(true, "0-3 or 0");
        rule(true, "0-3 and 2");
        rule(false, "0-3");
        rule(true, "1 or 1 and 0");
        rule(false, "(1 or 1) and 0");
        rule(true, "2 < 3");
        rule(false, "3 < 3");
        rule(true, "3 = 3");
        rule(true, "(3 < 4) + (3 = 3) = 2");
        rule(true, "(5 and 7) = 1");
        rule(true, "(5 or 0) = 1");
    }
}
