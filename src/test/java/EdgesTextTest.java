/** The boundary cases that promises 2 and 3 name, a test for each sentence. */
public final class EdgesTextTest {
    private static final String LOT = "lot 1 worth 1;", LATE = "late 1 value 1 purse 1;";

    public static void main(String[] args) {
        feedCounts();
        feedBytes();
        feedFull();
        hallAnswers();
        lotNumbers();
        bidderNumbers();
        otherNumbers();
        digits();
        names();
        blanks();
        blanksWhereTwoRunTogether();
        endOfText();
        otherBytes();
        fullHalls();
        firstFault();
        byItAlone();
        whatGoes();
        whatStaysWithFault();
        Due.promises(2, 3);
        Due.end("EdgesTextTest");
    }

    private static void feedCounts() {
        Due.sentence(2, "BAD: n is 1 to 8");
        Due.range("feed(0, v)", v -> new InchCandle().feed(0, v), 1, 8, -1);
        Due.sentence(2, "how many THE TAPE has: n more each time");
        InchCandle x = new InchCandle();
        int has = 0;
        for (int n = 1; n <= 8; n++) {
            has += n;
            Due.is("feed(0, " + n + ")", x.feed(0, n), has);
            Due.is("many(4)", x.many(4), has);
        }
    }

    private static void feedBytes() {
        Due.sentence(2, "the lowest of eight first, up to the eighth");
        InchCandle x = new InchCandle();
        x.feed(0x3b20392070657473L, 8);
        Due.is("hall() of 'step 9 ;'", x.hall(), 0);
        Due.is("step(5)", x.step(5), 9);
        Due.sentence(2, "of eight no more than n bytes come");
        x.feed(0x7a3b392070657473L, 7);
        Due.is("hall() of 'step 9;' and a z that doesn't come", x.hall(), 0);
        x.feed(0x7a3b392070657473L, 8);
        Due.is("hall() of 'step 9;z'", x.hall(), -107);
        x.feed(0xffffffffffffff20L, 1);
        Due.is("hall() of one blank", x.hall(), 0);
        Due.sentence(2, "a row of letters may come in parts");
        x.feed('s', 1);
        x.feed('t', 1);
        x.feed(0x207065L, 3);
        x.feed('1', 1);
        x.feed(0x3b37L, 2);
        Due.is("hall() of 'step 17;'", x.hall(), 0);
        Due.is("step(5)", x.step(5), 17);
    }

    private static InchCandle fed(int bytes) {
        InchCandle x = new InchCandle();
        for (int has = 0; has < bytes; has += 8) {
            x.feed(0x2020202020202020L, Math.min(8, bytes - has));
        }
        Due.is("many(4)", x.many(4), bytes);
        return x;
    }

    private static void feedFull() {
        Due.sentence(2, "200 bytes are not too many");
        for (int n = 1; n <= 8; n++) {
            Due.is("feed(0, " + n + ") that makes 200", fed(200 - n).feed(0, n), 200);
        }
        Due.sentence(2, "FULL: more than 200");
        for (int n = 1; n <= 8; n++) {
            InchCandle x = fed(201 - n);
            Due.is("feed(0, " + n + ") that makes 201", x.feed(0, n), -2);
            Due.is("none of them came", x.many(4), 201 - n);
            Due.is("nor was a byte changed", x.hall(), 0);
        }
        Due.sentence(2, "BAD ahead of FULL");
        InchCandle x = fed(200);
        Due.is("feed(0, 0)", x.feed(0, 0), -1);
        Due.is("feed(0, 9)", x.feed(0, 9), -1);
        Due.is("feed(0, 1)", x.feed(0, 1), -2);
        Due.is("feed(0, 8)", x.feed(0, 8), -2);
        Due.sentence(2, "THE TAPE that hall() used up takes 200 again");
        x.hall();
        for (int i = 1; i <= 25; i++) {
            Due.is("feed", x.feed(0x2020202020202020L, 8), 8 * i);
        }
        Due.is("feed", x.feed(0x20, 1), -2);
        Due.sentence(3, "a TEXT of 200 bytes is read to its last one");
        InchCandle y = new InchCandle();
        Due.feed(y, " ".repeat(193) + "step 7;");
        Due.is("hall()", y.hall(), 0);
        Due.is("step(5)", y.step(5), 7);
        Due.feed(y, " ".repeat(194) + "step 7");
        Due.is("hall(), the end is a FAULT", y.hall(), -300);
        Due.feed(y, " ".repeat(193) + "step 7,");
        Due.is("hall(), the last byte is a FAULT", y.hall(), -299);
    }

    /** hall() of a TEXT; THE TAPE is used up. */
    private static InchCandle text(String text, int want) {
        InchCandle x = new InchCandle();
        Due.feed(x, text);
        Due.is("hall() of '" + text + "'", x.hall(), want);
        Due.is("many(4) then", x.many(4), 0);
        return x;
    }

    private static void hallAnswers() {
        Due.sentence(3, "how many LOTS: none to all 5");
        for (int lots = 0; lots <= 5; lots++) {
            Due.is("many(0)", text(LOT.repeat(lots), lots).many(0), lots);
        }
        Due.sentence(3, "an empty TAPE is a TEXT without FAULT");
        text("", 0);
        Due.sentence(3, "of blanks alone, too");
        text(" ", 0);
        text(" ".repeat(200), 0);
        Due.sentence(3, "-100 less its FAULT: the first place is 0");
        text("x", -100);
        text(" x", -101);
        Due.sentence(3, "BIDDERS, 6 at most, and LOTS are numbered as they come");
        InchCandle x = text(LATE + "lot 2 worth 3;" + "blind 4 value 5 purse 6;" + "lot 7 worth 8;", 2);
        Due.is("KIND of 1", x.bidderOf(1, 0), 5);
        Due.is("WAX of 1", x.lotOf(1, 0), 7);
    }

    private static void lotNumbers() {
        Due.sentence(3, "lot: a WAX is 1 to 60");
        text("lot 0 worth 5;", -104);
        Due.is("WAX", text("lot 1 worth 5;", 1).lotOf(0, 0), 1);
        Due.is("WAX", text("lot 60 worth 5;", 1).lotOf(0, 0), 60);
        text("lot 61 worth 5;", -104);
        Due.sentence(3, "lot: a WORTH is 1 to 99");
        text("lot 5 worth 0;", -112);
        Due.is("WORTH", text("lot 5 worth 1;", 1).lotOf(0, 1), 1);
        Due.is("WORTH", text("lot 5 worth 99;", 1).lotOf(0, 1), 99);
        text("lot 5 worth 100;", -112);
    }

    private static void bidderNumbers() {
        String[] kinds = {"bidder", "late", "leaper", "sniper", "broker", "blind"};
        Due.sentence(3, "a KIND by its name");
        for (int kind = 0; kind < 6; kind++) {
            Due.is("KIND", text(kinds[kind] + " 1 value 1 purse 1;", 0).bidderOf(0, 0), kind);
        }
        Due.sentence(3, "KIND: A is 0 to 9");
        Due.is("A", text("late 0 value 1 purse 1;", 0).bidderOf(0, 1), 0);
        Due.is("A", text("late 9 value 1 purse 1;", 0).bidderOf(0, 1), 9);
        text("late 10 value 1 purse 1;", -105);
        Due.sentence(3, "KIND: a VALUE is 0 to 999");
        Due.is("VALUE", text("late 1 value 0 purse 1;", 0).bidderOf(0, 2), 0);
        Due.is("VALUE", text("late 1 value 999 purse 1;", 0).bidderOf(0, 2), 999);
        text("late 1 value 1000 purse 1;", -113);
        Due.sentence(3, "KIND: a PURSE is 0 to 9999");
        Due.is("PURSE", text("late 1 value 1 purse 0;", 0).bidderOf(0, 3), 0);
        Due.is("PURSE", text("late 1 value 1 purse 9999;", 0).bidderOf(0, 3), 9999);
        text("late 1 value 1 purse 10000;", -121);
    }

    private static void otherNumbers() {
        Due.sentence(3, "draught: a place is 0 to 11");
        Due.is("DRAUGHT 0", text("draught 0 2;", 0).draught(0, 0), 2);
        Due.is("DRAUGHT 11", text("draught 11 2;", 0).draught(11, 0), 2);
        text("draught 12 2;", -108);
        Due.sentence(3, "draught: 0 to 3");
        Due.is("DRAUGHT 3", text("draught 3 0;", 0).draught(3, 0), 0);
        Due.is("DRAUGHT 3", text("draught 3 3;", 0).draught(3, 0), 3);
        text("draught 3 4;", -110);
        Due.sentence(3, "step: 1 to 20");
        text("step 0;", -105);
        Due.is("STEP", text("step 1;", 0).step(5), 1);
        Due.is("STEP", text("step 20;", 0).step(5), 20);
        text("step 21;", -105);
        Due.sentence(3, "of a DRAUGHT and of STEP the one told last");
        InchCandle x = text("step 3;draught 4 3;step 2;draught 4 1;", 0);
        Due.is("STEP", x.step(5), 2);
        Due.is("DRAUGHT", x.draught(4, 0), 1);
    }

    private static void digits() {
        Due.sentence(3, "NUMBERS have 1 to 4 digits: four are as told, with 0 ahead too");
        Due.is("WAX", text("lot 0060 worth 0099;", 1).lotOf(0, 0), 60);
        Due.is("WAX", text("lot 060 worth 099;", 1).lotOf(0, 0), 60);
        Due.is("A", text("late 0000 value 0000 purse 0000;", 0).bidderOf(0, 1), 0);
        Due.is("DRAUGHT 11", text("draught 0011 0003;", 0).draught(11, 0), 3);
        Due.sentence(3, "of more digits is not as told, whatever it is worth");
        text("lot 00060 worth 5;", -104);
        text("lot 5 worth 00005;", -112);
        text("late 00000 value 1 purse 1;", -105);
        text("late 1 value 00001 purse 1;", -113);
        text("late 1 value 1 purse 00001;", -121);
        text("draught 00001 1;", -108);
        text("draught 1 00001;", -110);
        text("step 00001;", -105);
        Due.sentence(3, "of so many digits that an int wraps round");
        text("step 4294967297;", -105);
        text("step 18446744073709551617;", -105);
        text("step " + "0".repeat(190) + "5;", -105);
        Due.sentence(3, "a NUMBER is as long as its digits go");
        text("draught 113;", -108);
        text("step 2 0;", -107);
    }

    private static void names() {
        Due.sentence(3, "NAMES are as long as their letters go");
        text("lots 5 worth 5;", -100);
        text("lo 5 worth 5;", -100);
        text("lotlot 5 worth 5;", -100);
        text("lotworth 5;", -100);
        text("stepp 5;", -100);
        text("ste p 5;", -100);
        text("lateleaper 1 value 1 purse 1;", -100);
        Due.sentence(3, "a NAME of the TEXT that can't stand there");
        text("worth 5;", -100);
        text("value 5;", -100);
        text("purse 5;", -100);
        text("lot 5 value 5;", -106);
        text("lot 5 lot 5;", -106);
        text("lot 5 worths 5;", -106);
        text("lot 5 wort 5;", -106);
        text("late 1 worth 1 purse 1;", -107);
        text("late 1 purse 1 value 1;", -107);
        text("late 1 value 1 value 1;", -115);
        text("late 1 value 1 purses 1;", -115);
        text("lot worth 5;", -104);
        text("step step 5;", -105);
        text("lot 5 worth 5 worth 5;", -114);
        Due.sentence(3, "a NUMBER that can't stand there");
        text("5;", -100);
        text("lot 5 5;", -106);
        text("late 1 1;", -107);
        text("late 1 value 1 1;", -115);
        text("lot 5 worth 5 5;", -114);
        text("step 5 5;", -107);
        text("draught 1 1 1;", -112);
        text("step 5;5", -107);
    }

    private static void blanks() {
        Due.sentence(3, "blanks stand elsewhere as one likes");
        Due.is("WAX", text("   lot   5   worth   6   ;   ", 1).lotOf(0, 0), 5);
        Due.is("PURSE", text("  late  1  value  2  purse  3  ;", 0).bidderOf(0, 3), 3);
        text("  draught  1  2  ;  step  3  ;  ", 0);
        Due.sentence(3, "nor need they stand elsewhere");
        Due.is("WORTH", text("lot5worth6;lot7worth8;", 2).lotOf(1, 1), 8);
        Due.is("PURSE", text("blind9value999purse9999;", 0).bidderOf(0, 3), 9999);
        Due.is("STEP", text("step9;", 0).step(5), 9);
        Due.is("DRAUGHT", text("draught1 2;", 0).draught(1, 0), 2);
        Due.sentence(3, "a blank is 32 alone");
        text("lot\t5 worth 6;", -103);
        text("lot 5 worth 6;\n", -114);
        text("lot 5 worth 6;\r", -114);
        text("\0lot 5 worth 6;", -100);
        text("step" + (char) 160 + "5;", -104);
        text("step" + (char) 31 + "5;", -104);
        text("step!5;", -104);
        Due.sentence(3, "a blank within a NAME or a NUMBER parts it");
        text("st ep 5;", -100);
        text("lot 5 wor th 6;", -106);
        text("lot 1 0 worth 6;", -106);
        text("lot 5 worth 1 0;", -114);
    }

    private static void blanksWhereTwoRunTogether() {
        Due.sentence(3, "blanks part them where two would run together: two NUMBERS");
        Due.is("DRAUGHT 1", text("draught 1 1;", 0).draught(1, 0), 1);
        text("draught 11;", -110);
        Due.is("DRAUGHT 11", text("draught 11 1;", 0).draught(11, 0), 1);
        text("draught 111;", -108);
        Due.sentence(3, "where two would run together: two NAMES never stand side by side");
        text("lot worth;", -104);
        text("step value;", -105);
    }

    /** Each beginning of a text, by how many bytes it has: the FAULT of it. */
    private static void beginnings(String text, int... faults) {
        Due.is("beginnings", faults.length, text.length());
        for (int bytes = 0; bytes < faults.length; bytes++) {
            text(text.substring(0, bytes), faults[bytes] < 0 ? 0 : -100 - faults[bytes]);
        }
    }

    private static void endOfText() {
        Due.sentence(3, "FAULT: the end, if more must come (of a lot)");
        beginnings("lot 5 worth 6;", -1, 0, 0, 3, 4, 5, 6, 6, 6, 6, 6, 11, 12, 13);
        Due.sentence(3, "FAULT: the end, if more must come (of a KIND)");
        beginnings("late 7 value 8 purse 9;", -1, 0, 0, 0, 4, 5, 6, 7, 7, 7, 7, 7, 12, 13, 14, 15,
            15, 15, 15, 15, 20, 21, 22);
        Due.sentence(3, "FAULT: the end, if more must come (of a draught)");
        beginnings("draught 10 3;", -1, 0, 0, 0, 0, 0, 0, 7, 8, 9, 10, 11, 12);
        Due.sentence(3, "FAULT: the end, if more must come (of a step)");
        beginnings("step 13;", -1, 0, 0, 0, 4, 5, 6, 7);
        Due.sentence(3, "the end is how many bytes there are, blanks too");
        text("lot", -103);
        text("lot   ", -106);
        text("lot 5 worth 6   ", -116);
        text("step 5; step 6  ", -116);
    }

    private static void otherBytes() {
        Due.sentence(3, "the first other byte that can't stand there");
        text(";", -100);
        text("lot 5 worth 6;;", -114);
        text("lot; 5 worth 6;", -103);
        text("lot 5; worth 6;", -105);
        text("lot 5 worth; 6;", -111);
        text("lot 5 worth 6.", -113);
        text("lot -5 worth 6;", -104);
        text("lot +5 worth 6;", -104);
        text("lot 5, worth 6;", -105);
        text("{ lot 5 worth 6; }", -100);
        text("lot 5 worth 6; }", -115);
        text("step 5 |", -107);
        Due.sentence(3, "a letter is a to z: the signs just beside are none");
        text("`", -100);
        text("{", -100);
        text("step`5;", -104);
        text("step{5;", -104);
        text("A", -100);
        text("Step 5;", -100);
        text("sTep 5;", -100);
        text("steP 5;", -100);
        text("lot 5 Worth 5;", -106);
        Due.sentence(3, "a digit is 0 to 9: the signs just beside are none");
        text("step /5;", -105);
        text("step :5;", -105);
        text("step 5/;", -106);
        text("step 5:;", -106);
        Due.sentence(3, "bytes of 128 and above are none of a TEXT");
        text("step 5;" + (char) 128, -107);
        text("step 5;" + (char) 255, -107);
        text((char) 233 + "step 5;", -100);
        text("step " + (char) (128 + '5') + ";", -105);
        text((char) (128 + 's') + "tep 5;", -100);
        text("step 5" + (char) (128 + ';'), -106);
    }

    private static void fullHalls() {
        Due.sentence(3, "the first NAME of a sixth LOT");
        text(LOT.repeat(5), 5);
        text(LOT.repeat(6), -170);
        text(LOT.repeat(5) + "  lot", -172);
        text(LOT.repeat(5) + "lot 99 ;", -170);
        text(LOT.repeat(5) + "lots", -170);
        text(LOT.repeat(5) + "step 5;lot", -177);
        Due.sentence(3, "the first NAME of a seventh BIDDER, of whatever KIND");
        text(LATE.repeat(6), 0);
        for (String kind : new String[] {"bidder", "late", "leaper", "sniper", "broker", "blind"}) {
            text(LATE.repeat(6) + " " + kind, -239);
            text(LATE.repeat(5) + " " + kind, -216 - kind.length());
        }
        Due.sentence(3, "with 5 LOTS there may be BIDDERS, with 6 BIDDERS there may be LOTS");
        Due.is("many(1)", text(LOT.repeat(5) + LATE, 5).many(1), 1);
        text(LATE.repeat(6) + LOT, 1);
        Due.sentence(3, "LOTS and BIDDERS that were there ahead don't count");
        InchCandle x = text(LOT.repeat(5), 5);
        for (int i = 0; i < 6; i++) {
            x.bidder(0, 0, 0, 0);
        }
        Due.feed(x, LOT.repeat(5));
        Due.is("hall()", x.hall(), 5);
        Due.feed(x, LATE.repeat(6));
        Due.is("hall()", x.hall(), 0);
        Due.is("many(1)", x.many(1), 6);
    }

    private static void firstFault() {
        Due.sentence(3, "of several FAULTS the first one");
        text("lot 0 worth 0;", -104);
        text("lot 5 worth 0; lot 0", -112);
        text("lot 61 wort", -104);
        text("step 5 step 0;", -107);
        text("late 10 value 1000 purse 10000", -105);
        text("late 1 value 1000 purse 10000", -113);
        text("draught 12 4", -108);
        text("x y z", -100);
    }

    private static void byItAlone() {
        Due.sentence(3, "it is THE HALL by it alone: what was there ahead is gone");
        InchCandle x = Due.hall("lot 5 worth 6;lot 7 worth 8;late 1 value 1 purse 1;late 1 value 1 purse 1;");
        x.light(0);
        x.snuff();
        Due.feed(x, "lot 9 worth 9;blind 2 value 2 purse 2;");
        Due.is("hall()", x.hall(), 1);
        Due.is("many(0)", x.many(0), 1);
        Due.is("many(1)", x.many(1), 1);
        Due.is("many(2)", x.many(2), 0);
        Due.is("WAX", x.lotOf(0, 0), 9);
        Due.is("sold", x.lotOf(0, 2), 0);
        Due.is("PRICE", x.lotOf(0, 3), -9);
        Due.is("to whom", x.lotOf(0, 4), -9);
        Due.sentence(3, "DRAUGHTS 0, STEP 5, if not told");
        x.draught(0, 3);
        x.draught(11, 3);
        x.step(20);
        Due.feed(x, "draught 5 2;");
        Due.is("hall()", x.hall(), 0);
        for (int place = 0; place < 12; place++) {
            Due.is("draught(" + place + ", 0)", x.draught(place, 0), place == 5 ? 2 : 0);
        }
        Due.is("step(20)", x.step(20), 5);
        Due.sentence(3, "an empty TAPE makes an empty HALL");
        x.lot(1, 1);
        x.bidder(0, 0, 0, 0);
        Due.is("hall()", x.hall(), 0);
        Due.is("many(0)", x.many(0), 0);
        Due.is("many(1)", x.many(1), 0);
        Due.is("step(5)", x.step(5), 5);
    }

    private static InchCandle lively() {
        InchCandle x = Due.hall("lot 5 worth 90;lot 9 worth 90;bidder 0 value 99 purse 99;late 2 value 99 purse 99;");
        x.keep();
        x.seed(77);
        x.sheet(1, 1, 2);
        x.put(1, 1, 700);
        x.shelf(0, 0, 0);
        x.shelf(1, 1, 1);
        x.act(0, 3, 1);
        x.prove(0);
        x.light(1);
        x.ticks(1);
        return x;
    }

    private static void whatGoes() {
        InchCandle x = lively();
        Due.yes("ROWS", x.many(3) > 0);
        Due.feed(x, "lot 3 worth 90;bidder 0 value 99 purse 99;");
        Due.is("hall()", x.hall(), 1);
        Due.sentence(3, "there are no ROWS then");
        Due.is("many(3)", x.many(3), 0);
        Due.is("row(0, 0)", x.row(0, 0), -9);
        Due.sentence(3, "THE LOT none");
        Due.is("now(0)", x.now(0), -9);
        Due.is("now(3)", x.now(3), 0);
        Due.is("now(4)", x.now(4), -9);
        Due.is("light(0)", x.light(0), 1);
        Due.is("now(1)", x.now(1), 0);
        Due.sentence(3, "z stays");
        Due.is("seed(1)", x.seed(1), 77);
        Due.sentence(3, "SHEETS, SHELVES and THE TRACE stay");
        Due.is("item(1, 1, 1)", x.item(1, 1, 1), 700);
        Due.is("taken(0, 0)", x.taken(0, 0), 0);
        Due.is("taken(1, 11)", x.taken(1, 11), 2);
        Due.is("trace(0)", x.trace(0), 13);
        Due.sentence(3, "what is kept stays");
        Due.is("again()", x.again(), 2);
    }

    private static void whatStaysWithFault() {
        Due.sentence(3, "THE TAPE is used up, with a FAULT too");
        InchCandle x = lively();
        Due.feed(x, "lot 3 worth 90;step 20;draught 3 3;blind 1 value 1 purse 1;x");
        Due.is("hall()", x.hall(), -159);
        Due.is("many(4)", x.many(4), 0);
        Due.is("hall() again, of an empty TAPE", lively().hall(), 0);
        Due.sentence(3, "with a FAULT ROWS stay");
        Due.yes("many(3)", x.many(3) > 0);
        Due.is("row(0, 2)", x.row(0, 2), 5);
        Due.sentence(3, "of a TEXT with a FAULT nothing is in the next one, nor of one ahead");
        InchCandle z = new InchCandle();
        String text = LOT.repeat(5) + LATE.repeat(2) + "step 9;draught 0 3;draught 11 3;";
        Due.feed(z, text + "x");
        Due.is("hall()", z.hall(), -248);
        Due.feed(z, LATE.repeat(6));
        Due.is("hall()", z.hall(), 0);
        Due.is("many(1)", z.many(1), 6);
        Due.is("step(5)", z.step(5), 5);
        Due.is("draught(0, 0)", z.draught(0, 0), 0);
        Due.is("draught(11, 0)", z.draught(11, 0), 0);
        Due.feed(z, text);
        Due.is("hall()", z.hall(), 5);
        Due.is("hall()", z.hall(), 0);
        Due.is("step(5)", z.step(5), 5);
        Due.is("draught(0, 0)", z.draught(0, 0), 0);
        Due.is("draught(11, 0)", z.draught(11, 0), 0);
        Due.sentence(3, "with a FAULT all stays but THE TAPE");
        Due.same("parts", Told.parts(() -> {
            InchCandle y = lively();
            Due.feed(y, "lot 3 worth 90;step 20;draught 3 3;blind 1 value 1 purse 1;x");
            y.hall();
            return y;
        }).toString(), Told.parts(EdgesTextTest::lively).toString());
    }
}
