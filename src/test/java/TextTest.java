/** Promises 2 and 3: THE TAPE, its TEXT and the FAULTS of it. */
public final class TextTest {
    public static void main(String[] args) {
        tape();
        told();
        blanks();
        faults();
        fullHalls();
        whatStays();
        Due.end("TextTest");
    }

    private static void tape() {
        InchCandle x = new InchCandle();
        Due.is("feed(0, 0)", x.feed(0, 0), -1);
        Due.is("feed(0, 9)", x.feed(0, 9), -1);
        Due.is("feed(0, -1)", x.feed(0, -1), -1);
        Due.is("feed(0, 1)", x.feed(0, 1), 1);
        Due.is("feed(0, 8)", x.feed(0, 8), 9);
        for (int i = 0; i < 23; i++) {
            x.feed(-1, 8);
        }
        Due.is("many(4)", x.many(4), 193);
        Due.is("feed(0, 8)", x.feed(0, 8), -2);
        Due.is("feed(0, 9), BAD ahead of FULL", x.feed(0, 9), -1);
        Due.is("feed(0, 7)", x.feed(0, 7), 200);
        Due.is("feed(0, 1)", x.feed(0, 1), -2);
        Due.is("hall()", x.hall(), -100);
        Due.is("many(4)", x.many(4), 0);
        Due.is("the lowest byte first: 'step 9;'", x.feed(0x3b392070657473L, 7), 7);
        Due.is("hall()", x.hall(), 0);
        Due.is("step(1)", x.step(1), 9);
        Due.is("'; step ' with n told as 8", x.feed(0x207065747320203bL, 8), 8);
        Due.is("hall()", x.hall(), -100);
    }

    private static void told() {
        InchCandle x = Due.hall("lot 60 worth 99;step 20;late 9 value 999 purse 9999;draught 11 3;lot 1 worth 1;"
            + "bidder 0 value 0 purse 0;step 1;draught 0 2;draught 11 1;");
        Due.is("many(0)", x.many(0), 2);
        Due.is("many(1)", x.many(1), 2);
        Due.is("WAX", x.lotOf(0, 0), 60);
        Due.is("WORTH", x.lotOf(0, 1), 99);
        Due.is("sold", x.lotOf(0, 2), 0);
        Due.is("PRICE", x.lotOf(0, 3), -9);
        Due.is("to whom", x.lotOf(0, 4), -9);
        Due.is("WAX", x.lotOf(1, 0), 1);
        Due.is("WORTH", x.lotOf(1, 1), 1);
        Due.is("KIND", x.bidderOf(0, 0), 1);
        Due.is("A", x.bidderOf(0, 1), 9);
        Due.is("VALUE", x.bidderOf(0, 2), 999);
        Due.is("PURSE", x.bidderOf(0, 3), 9999);
        Due.is("KIND", x.bidderOf(1, 0), 0);
        Due.is("the STEP told last", x.step(5), 1);
        Due.is("DRAUGHT 0", x.draught(0, 0), 2);
        Due.is("the DRAUGHT told last", x.draught(11, 0), 1);
        Due.is("a DRAUGHT not told", x.draught(5, 0), 0);
        kinds();
    }

    private static void kinds() {
        InchCandle x = Due.hall("bidder 0 value 1 purse 1;late 1 value 1 purse 1;leaper 2 value 1 purse 1;"
            + "sniper 3 value 1 purse 1;broker 4 value 1 purse 1;blind 5 value 1 purse 1;");
        for (int i = 0; i < 6; i++) {
            Due.is("KIND", x.bidderOf(i, 0), i);
            Due.is("A", x.bidderOf(i, 1), i);
        }
    }

    private static void blanks() {
        text("", 0);
        text("   ", 0);
        text("  lot  5   worth  6  ;  ", 1);
        text("lot5worth6;", 1);
        text("lot 0005worth06;lot 5 worth 6;", 2);
        text("draught 1 1;", 0);
        text("draught11 3;", 0);
        text("draught 0 0;draught 11 0;", 0);
        text("draught 11;", -110);
        text("draught 113;", -108);
        text("draught 1 1 1;", -112);
        text("lot 1 0 worth 5;", -106);
        text("lo t 10 worth 5;", -100);
        text("lot 10 wor th 5;", -107);
        text("lotworth 5;", -100);
        text("lot\t5 worth 6;", -103);
        text("lot 5 worth 6\n;", -113);
    }

    private static void text(String text, int want) {
        InchCandle x = new InchCandle();
        Due.feed(x, text);
        Due.is("many(4) of '" + text + "'", x.many(4), text.length());
        Due.is("hall() of '" + text + "'", x.hall(), want);
        Due.is("many(4) after hall()", x.many(4), 0);
    }

    private static void faults() {
        text("lot", -103);
        text("lot  ", -105);
        text("lot 5", -105);
        text("lot 5 worth", -111);
        text("lot 5 worth 5", -113);
        text("lot 5 worth 5   ", -116);
        text("lot 5 worth 5;lo", -114);
        text("lot 5 worth 5;;", -114);
        text("lot 5 worth 5;  5", -116);
        text("lots 5 worth 5;", -100);
        text("Lot 5 worth 5;", -100);
        text("loT 5 worth 5;", -100);
        text("lotX5 worth 5;", -100 - 3);
        text("lot -5 worth 5;", -104);
        text("lot worth 5;", -104);
        text("lot 5 worths 5;", -106);
        text("lot 5 value 5;", -106);
        text("lot 5 5;", -106);
        text("lot 61 worth 5;", -104);
        text("lot 0 worth 5;", -104);
        text("lot 5 worth 0;", -112);
        text("lot 5 worth 100;", -112);
        text("lot 00005 worth 5;", -104);
        text("lot 99999999999 worth 5;", -104);
        text("lot 5 worth 5, ", -113);
        text("late 10 value 5 purse 5;", -105);
        text("late 9 purse 5;", -107);
        text("late 9 value 1000 purse 5;", -113);
        text("late 9 value 999 purse 10000;", -123);
        text("late 9 value 999 worth 5;", -117);
        text("late 9 value 999 purse 5", -124);
        text("bidder 9 value 999 purse;", -124);
        text("draught 12 1;", -108);
        text("draught 1 4;", -110);
        text("draught 1", -109);
        text("draught ;", -108);
        text("step 0;", -105);
        text("step 21;", -105);
        text("step;", -104);
        text("worth 5;", -100);
        text("value", -100);
        text("step 5;" + (char) 233, -107);
        text("step 5;" + (char) 0, -107);
        text("step 5" + (char) 160 + ";", -106);
        text("}", -100);
        text("step `5;", -105);
        text("step {5;", -105);
        text("step /5;", -105);
        text("step :5;", -105);
        text("{step 5;", -100);
        text("step 5!", -106);
    }

    private static void fullHalls() {
        String lot = "lot 1 worth 1;";
        text(lot + lot + lot + lot + lot, 5);
        text(lot + lot + lot + lot + lot + " lot 99 ;", -171);
        text(lot + lot + lot + lot + lot + "lots 99 ;", -170);
        text(lot + lot + lot + lot + lot + "step 2; step 3;", 5);
        String late = "late 1 value 1 purse 1;";
        text(late + late + late + late + late + late, 0);
        text(late + late + late + late + late + late + "  blind x", -240);
        text(late + late + late + late + late + late + "step 3;" + lot, 1);
    }

    private static void whatStays() {
        InchCandle x = Due.hall("lot 9 worth 50;lot 8 worth 50;bidder 0 value 100 purse 70;draught 3 3;step 7;");
        x.seed(77);
        x.keep();
        x.prove(0);
        x.light(1);
        Due.is("rows", x.many(3), 1);
        Due.feed(x, "lot 5 worth 5;step 21;");
        Due.is("a FAULT", x.hall(), -119);
        Due.is("the hall stays", x.many(0), 2);
        Due.is("WAX stays", x.lotOf(0, 0), 9);
        Due.is("ROWS stay", x.many(3), 1);
        Due.is("THE LOT stays", x.now(0), 1);
        Due.is("DRAUGHTS stay", x.draught(3, 3), 3);
        Due.is("STEP stays", x.step(7), 7);
        Due.feed(x, "lot 5 worth 5;");
        Due.is("hall()", x.hall(), 1);
        Due.is("ROWS go", x.many(3), 0);
        Due.is("THE LOT goes", x.now(0), -9);
        Due.is("BIDDERS go", x.many(1), 0);
        Due.is("DRAUGHTS 0", x.draught(3, 3), 0);
        Due.is("STEP 5", x.step(7), 5);
        Due.is("z stays", x.seed(77), 77);
        Due.is("what is kept stays", x.again(), 2);
        Due.is("DRAUGHTS kept", x.draught(3, 3), 3);
        Due.is("an empty TAPE", x.hall(), 0);
        Due.is("many(0)", x.many(0), 0);
        for (int place = 0; place < 12; place++) {
            Due.is("DRAUGHT", x.draught(place, 0), 0);
        }
        byItAlone();
        usedUp();
    }

    private static void byItAlone() {
        InchCandle x = Due.hall("draught 0 3;draught 11 2;draught 6 1;step 9;blind 1 value 1 purse 1;");
        Due.feed(x, "draught 6 3;late 2 value 2 purse 2;");
        Due.is("hall()", x.hall(), 0);
        Due.is("BIDDERS", x.many(1), 1);
        Due.is("KIND", x.bidderOf(0, 0), 1);
        for (int place = 0; place < 12; place++) {
            Due.is("DRAUGHT", x.draught(place, 0), place == 6 ? 3 : 0);
        }
        Due.is("STEP", x.step(1), 5);
        Due.is("all PURSES", x.owed(1), 2);
    }

    /** What an earlier TAPE had behind the end of this one counts no more. */
    private static void usedUp() {
        InchCandle x = new InchCandle();
        String[] texts = {"step 12;", "step 1", "lot 5 worth 5;", "lot 5 worth 5", "step 1;", "ste", "lot 5 worth ", "step 12  ;", "step 12"};
        int[] want = {0, -106, 1, -113, 0, -100, -112, 0, -107};
        for (int i = 0; i < texts.length; i++) {
            Due.feed(x, texts[i]);
            Due.is("hall() of " + texts[i], x.hall(), want[i]);
        }
    }
}
