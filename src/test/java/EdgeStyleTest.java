/** Section 2: the text's bytes, words, numbers and blanks, the bounds of the style, the faults with the byte at which each is told. */
public final class EdgeStyleTest extends Checks {
    private static final int[] AT_FIRST = {0, 0, 3, 1, 1, 0, 0, 1, 0, 0};
    /** Each clause with the place of style(what) that it tells, and a value there that is not the one at first. */
    private static final String[] CLAUSES = {"form number;", "order year;", "names 4 show 3;", "again 9;", "more yes;", "initials yes;", "letters no;", "run 9;", "pages short;"};
    private static final int[] PLACES = {0, 1, 2, 4, 5, 6, 7, 8, 9};
    private static final int[] VALUES = {2, 2, 4, 9, 1, 1, 0, 9, 1};
    private static final String[] HEADS = {"form", "order", "names", "again", "more", "initials", "letters", "run", "pages"};

    public static void main(String[] args) {
        whatATextDoesNotTell();
        allClauses();
        choices();
        wordsThatCannotStand();
        namesBounds();
        showBounds();
        againBounds();
        runBounds();
        numbersOfTwoFigures();
        numbersOfThreeFigures();
        numbersThatWrap();
        lettersAlone();
        figuresAlone();
        blanksAlone();
        blanksWithin();
        blanksAnywhere();
        wordsSideBySide();
        faultAtTheEnd();
        faultAtTheFirstByte();
        faultTheLeast();
        faultToldAlready();
        textAtMost();
        textOfAllBytes();
        textIsEmptyThen();
        styleIsAsItWas();
        feedBounds();
        feedHighestFirst();
        faultOfTheLatestRead();
        styleBounds();
        end("edges of the style");
    }

    private static void good(String text, int clauses) {
        CitedWorks x = new CitedWorks();
        due("read of '" + text + "'", read(x, text), clauses);
        due("fault of '" + text + "'", x.fault(), NONE);
    }

    private static void fault(String text, int number, int place) {
        CitedWorks x = new CitedWorks();
        due("read of '" + text + "'", read(x, text), -10 - number);
        due("fault of '" + text + "'", x.fault(), place);
        dueAll("style behind '" + text + "'", style(x), AT_FIRST);
    }

    /** The text is read, and style(what) is the value then. */
    private static void tells(String text, int what, int value) {
        CitedWorks x = new CitedWorks();
        due("read of '" + text + "'", read(x, text), 1);
        due("style(" + what + ") by '" + text + "'", x.style(what), value);
    }

    // ---- clauses

    private static void whatATextDoesNotTell() {
        says("At first, and what a text does not tell: form note, order cited, names 3 show 1, again 1, more no, initials no, letters yes, run 0, pages full");
        dueAll("at first", style(new CitedWorks()), AT_FIRST);
        for (int k = 0; k < CLAUSES.length; k++) {
            CitedWorks x = new CitedWorks();
            read(x, String.join("", CLAUSES));
            due("one clause", read(x, CLAUSES[k]), 1);
            int[] want = AT_FIRST.clone();
            want[PLACES[k]] = VALUES[k];
            if (k == 2) want[3] = 3;
            dueAll("style by '" + CLAUSES[k] + "'", style(x), want);
        }
        CitedWorks x = new CitedWorks();
        read(x, String.join("", CLAUSES));
        due("nothing is told", x.read(), 0);
        dueAll("as at first", style(x), AT_FIRST);
        read(x, String.join("", CLAUSES));
        due("blanks tell nothing", read(x, "   "), 0);
        dueAll("as at first", style(x), AT_FIRST);
    }

    private static void allClauses() {
        says("how many clauses");
        StringBuilder text = new StringBuilder();
        for (int k = 0; k < CLAUSES.length; k++) {
            good(text.toString(), k);
            text.append(CLAUSES[k]);
        }
        good(text.toString(), 9);
        StringBuilder backwards = new StringBuilder();
        for (int k = CLAUSES.length - 1; k >= 0; k--) backwards.append(CLAUSES[k]);
        CitedWorks x = new CitedWorks();
        due("in another order", read(x, backwards.toString()), 9);
        dueAll("style", style(x), 2, 2, 4, 3, 9, 1, 1, 0, 9, 1);
    }

    private static void choices() {
        says("'form' ('note' | 'name' | 'number'), 'order' ('cited' | 'name' | 'year'), yes = 'yes' | 'no', 'pages' ('full' | 'short')");
        tells("form note;", 0, 0);
        tells("form name;", 0, 1);
        tells("form number;", 0, 2);
        tells("order cited;", 1, 0);
        tells("order name;", 1, 1);
        tells("order year;", 1, 2);
        tells("more no;", 5, 0);
        tells("more yes;", 5, 1);
        tells("initials no;", 6, 0);
        tells("initials yes;", 6, 1);
        tells("letters no;", 7, 0);
        tells("letters yes;", 7, 1);
        tells("pages full;", 9, 0);
        tells("pages short;", 9, 1);
    }

    private static void wordsThatCannotStand() {
        says("1 it cannot stand there (a word that cannot: at its first letter)");
        String[] words = {"note", "name", "number", "cited", "year", "yes", "no", "full", "short", "show",
            "form", "order", "names", "again", "more", "initials", "letters", "run", "pages", "x", "notes", "nam", "z"};
        String[] good = {"note name number", "cited name year", "", "", "yes no", "yes no", "yes no", "", "full short"};
        for (String word : words) {
            boolean head = java.util.Arrays.asList(HEADS).contains(word);
            if (!head) fault(word + " 1;", 1, 0);
            fault("; " + word, 1, 0);
            fault("more yes " + word + ";", 1, 9);
            fault("again 1 " + word + ";", 1, 8);
            fault("names 1 show " + word + ";", 1, 13);
            if (!word.equals("show")) fault("names 1 " + word + " 1;", 1, 8);
            for (int k = 0; k < HEADS.length; k++) {
                boolean stands = java.util.Arrays.asList(good[k].split(" ")).contains(word);
                if (stands) good(HEADS[k] + " " + word + ";", 1);
                else fault(HEADS[k] + " " + word + ";", 1, HEADS[k].length() + 1);
            }
        }
    }

    // ---- numbers

    private static void namesBounds() {
        says("names 1 .. 4");
        for (int n = 0; n <= 99; n++) {
            String text = "names " + n + " show 1;";
            if (n >= 1 && n <= 4) tells(text, 2, n);
            else fault(text, 2, 6);
        }
    }

    private static void showBounds() {
        says("show 1 .. names");
        for (int names = 1; names <= 4; names++) {
            for (int show = 0; show <= 99; show++) {
                String text = "names " + names + " show " + show + ";";
                if (show >= 1 && show <= names) {
                    tells(text, 2, names);
                    tells(text, 3, show);
                } else {
                    fault(text, 2, 13);
                }
            }
        }
    }

    private static void againBounds() {
        says("again 0 .. 9");
        for (int n = 0; n <= 99; n++) {
            if (n <= 9) tells("again " + n + ";", 4, n);
            else fault("again " + n + ";", 2, 6);
        }
    }

    private static void runBounds() {
        says("run 0, 2 .. 9");
        for (int n = 0; n <= 99; n++) {
            if (n == 0 || (n >= 2 && n <= 9)) tells("run " + n + ";", 8, n);
            else fault("run " + n + ";", 2, 4);
        }
    }

    private static void numbersOfTwoFigures() {
        says("N: a NUMBER of one or two figures");
        for (int n = 0; n <= 9; n++) {
            tells("again 0" + n + ";", 4, n);
            if (n == 1) fault("run 0" + n + ";", 2, 4);
            else tells("run 0" + n + ";", 8, n);
            if (n >= 1 && n <= 4) {
                tells("names 0" + n + " show 1;", 2, n);
                tells("names 4 show 0" + n + ";", 3, n);
            } else {
                fault("names 0" + n + " show 1;", 2, 6);
                fault("names 4 show 0" + n + ";", 2, 13);
            }
        }
    }

    private static void numbersOfThreeFigures() {
        says("2 a NUMBER of three figures or more (at its first)");
        for (String number : new String[] {"000", "001", "002", "004", "009", "100", "999", "0000", "0000000002"}) {
            fault("again " + number + ";", 2, 6);
            fault("run " + number + ";", 2, 4);
            fault("run   " + number + " ;", 2, 6);
            fault("names " + number + " show 1;", 2, 6);
            fault("names 4 show " + number + ";", 2, 13);
        }
        fault("again 00", 1, 8);
        fault("again 000", 2, 6);
        fault("again" + "0".repeat(195), 2, 5);
    }

    private static void numbersThatWrap() {
        says("2 out of its bounds: no NUMBER is so long that it is within them again");
        for (String number : new String[] {"256", "258", "65538", "4294967296", "4294967298", "8589934594", "18446744073709551618", "2147483648"}) {
            fault("again " + number + ";", 2, 6);
            fault("run " + number + ";", 2, 4);
            fault("names " + number + " show 1;", 2, 6);
            fault("names 2 show " + number + ";", 2, 13);
        }
    }

    // ---- bytes

    private static void lettersAlone() {
        says("Words are letters a .. z side by side");
        for (int b = 0; b < 256; b++) {
            char sign = (char) b;
            boolean letter = sign >= 'a' && sign <= 'z';
            fault("mo" + sign + "re yes;", 1, 0);
            fault(sign + "ore;", 1, sign == ' ' ? 1 : sign == 'm' ? 4 : 0);
            if (sign == ';') good("more yes" + sign, 1);
            else fault("more yes" + sign, 1, letter ? 5 : sign == ' ' ? 9 : 8);
            if (sign != ' ') fault("more yes;" + sign, 1, 9);
        }
        fault("More yes;", 1, 0);
        fault("mORE yes;", 1, 0);
        fault("more Yes;", 1, 5);
        fault("more yeS;", 1, 5);
        fault("more`yes;", 1, 4);
        fault("more{yes;", 1, 4);
    }

    private static void figuresAlone() {
        says("N: a NUMBER of one or two figures: no other byte is one");
        for (int b = 0; b < 256; b++) {
            char sign = (char) b;
            boolean figure = sign >= '0' && sign <= '9';
            if (figure) tells("again " + sign + ";", 4, sign - '0');
            else fault("again " + sign + ";", 1, sign == ' ' ? 7 : 6);
            if (figure) tells("again 0" + sign + ";", 4, sign - '0');
            else if (sign == ' ') good("again 0" + sign + ";", 1);
            else fault("again 0" + sign + ";", 1, sign == ';' ? 8 : 7);
        }
        fault("again /;", 1, 6);
        fault("again :;", 1, 6);
        fault("again -0;", 1, 6);
        fault("again +1;", 1, 6);
        fault("again 1.;", 1, 7);
    }

    private static void blanksAlone() {
        says("blanks (32) may stand anywhere: no other byte is one");
        for (int b = 0; b < 256; b++) {
            char sign = (char) b;
            boolean letter = sign >= 'a' && sign <= 'z';
            if (sign == ' ') {
                good("more" + sign + "yes;", 1);
                good(sign + "more yes;", 1);
                good("more yes" + sign + ";", 1);
                good("more yes;" + sign, 1);
                continue;
            }
            fault("more" + sign + "yes;", 1, letter ? 0 : 4);
            fault(sign + "more yes;", 1, 0);
            if (sign == ';') fault("more yes" + sign + ";", 1, 9);
            else fault("more yes" + sign + ";", 1, letter ? 5 : 8);
            fault("more yes;" + sign, 1, 9);
        }
    }

    private static void blanksWithin() {
        says("blanks may stand anywhere but within words and NUMBERS");
        fault("mo re yes;", 1, 0);
        fault("more y es;", 1, 5);
        fault("more ye s;", 1, 5);
        fault("more no te;", 1, 8);
        fault("again 0 5;", 1, 8);
        fault("again 1 0;", 1, 8);
        fault("run 0 2;", 1, 6);
        fault("names 1 2 show 1;", 1, 8);
        fault("names 1 sh ow 1;", 1, 8);
        fault("form num ber;", 1, 5);
    }

    private static void blanksAnywhere() {
        says("blanks may stand anywhere: none, one, many");
        good("names2show1;again0;run0;", 3);
        good("names 2 show 1 ; again 0 ; run 0 ; ", 3);
        good("   names   2   show   1   ;   again   0   ;   run   0   ;   ", 3);
        good("form note ;order cited ;more yes ;", 3);
        good(" ", 0);
        CitedWorks x = new CitedWorks();
        read(x, " names  4show3 ;run9; again  8;");
        dueAll("style", style(x), 0, 0, 4, 3, 8, 0, 0, 1, 9, 0);
    }

    private static void wordsSideBySide() {
        says("two words side by side need one");
        fault("formnote;", 1, 0);
        fault("orderyear;", 1, 0);
        fault("moreyes;", 1, 0);
        fault("pagesshort;", 1, 0);
        fault("more yesmore no;", 1, 5);
        good("names 2show 1;", 1);
        good("names 2 show1;", 1);
        good("names2 show 1;", 1);
        good("more yes;initials yes;", 2);
        fault("names 2 show1x;", 1, 13);
    }

    // ---- faults

    private static void faultAtTheEnd() {
        says("FAULTS, at the first byte that has one (the end at the text's length)");
        int[] form = {NONE, 0, 0, 0, 4, 5, 5, 5, 5, 9, NONE};
        int[] names = {NONE, 0, 0, 0, 0, 5, 6, 7, 8, 8, 8, 8, 12, 13, 14, NONE};
        int[] run = {NONE, 0, 0, 3, 4, 5, NONE};
        prefixes("form note;", form);
        prefixes("names 4 show 3;", names);
        prefixes("run 2;", run);
        fault("more yes; order", 1, 15);
        fault("more yes; order ", 1, 16);
        fault("more yes;   order year", 1, 22);
        fault("more yes", 1, 8);
        fault("more yes   ", 1, 11);
        fault("names 1", 1, 7);
        fault("names 1show", 1, 11);
    }

    /** The text cut to each length; NONE: it can be read then. */
    private static void prefixes(String text, int[] places) {
        for (int n = 0; n <= text.length(); n++) {
            if (places[n] == NONE) good(text.substring(0, n), n == 0 ? 0 : 1);
            else fault(text.substring(0, n), 1, places[n]);
        }
    }

    private static void faultAtTheFirstByte() {
        says("at the first byte that has one");
        fault("run 1;form x;", 2, 4);
        fault("form x;run 1;", 1, 5);
        fault("more yes;more no;run 1;", 3, 9);
        fault("more yes;run 1;more no;", 2, 13);
        fault("more yes;x;more no;", 1, 9);
        fault("names 5 show 6;", 2, 6);
        fault("names 4 show 5;", 2, 13);
        fault("names 5 x", 2, 6);
        fault("names 5", 2, 6);
        fault("run 123x", 2, 4);
        fault("run 12", 2, 4);
        fault("x", 1, 0);
        fault("     x", 1, 5);
        fault(";", 1, 0);
        fault("more yes;;", 1, 9);
    }

    private static void faultTheLeast() {
        says("of these the least");
        fault("123", 1, 0);
        fault("form 123;", 1, 5);
        fault("more yes 123;", 1, 9);
        fault("again 1 123;", 1, 8);
        fault("names 1 99 show 1;", 1, 8);
        fault("form note form name;", 1, 10);
        fault("more more yes;", 1, 5);
        fault("again again 1;", 1, 6);
        fault("more yes;10;", 1, 9);
    }

    private static void faultToldAlready() {
        says("3 a clause of a kind that was told already (at its first letter)");
        for (int k = 0; k < CLAUSES.length; k++) {
            fault(CLAUSES[k] + CLAUSES[k], 3, CLAUSES[k].length());
            fault(CLAUSES[k] + "  " + HEADS[k], 3, CLAUSES[k].length() + 2);
            fault(CLAUSES[k] + HEADS[k] + " 7777", 3, CLAUSES[k].length());
            fault(CLAUSES[k] + HEADS[k] + "x", 1, CLAUSES[k].length());
            String all = String.join("", CLAUSES);
            fault(all + HEADS[k] + ";", 3, all.length());
        }
        fault("form note;order year;form note;", 3, 21);
        fault("names 1 show 1;show 1;", 1, 15);
    }

    // ---- the text

    private static void textAtMost() {
        says("a text (200 bytes at most); feed: FULL");
        for (int n = 1; n <= 8; n++) {
            CitedWorks x = new CitedWorks();
            int bytes = 0;
            while (bytes + n <= 200) {
                bytes += n;
                due("feed " + n, x.feed(n, 0), bytes);
            }
            for (int more = 200 - bytes + 1; more <= 8; more++) {
                due("feed " + more + " behind " + bytes, x.feed(more, 0), FULL);
                due("bytes", x.count(8), bytes);
            }
            if (bytes < 200) due("as many as there is room for", x.feed(200 - bytes, 0), 200);
            due("no more", x.feed(1, 0), FULL);
            due("outside ahead of full", x.feed(0, 0), OUTSIDE);
            due("outside ahead of full", x.feed(9, 0), OUTSIDE);
            due("bytes", x.count(8), 200);
        }
    }

    private static void textOfAllBytes() {
        says("a text of 200 bytes is read to its last one");
        good(" ".repeat(200), 0);
        good(" ".repeat(191) + "more yes;", 1);
        good("more yes;" + " ".repeat(191), 1);
        good("more" + " ".repeat(192) + "yes;", 1);
        fault("more yes;" + " ".repeat(190) + "x", 1, 199);
        fault("more yes" + " ".repeat(192), 1, 200);
        fault(" ".repeat(192) + "more yes", 1, 200);
        fault(" ".repeat(196) + "more", 1, 200);
        fault(" ".repeat(195) + "again", 1, 200);
        fault(" ".repeat(194) + "again1", 1, 200);
        fault(" ".repeat(193) + "again10", 2, 198);
        fault("run 2;" + " ".repeat(191) + "run", 3, 197);
        CitedWorks x = new CitedWorks();
        read(x, " ".repeat(193) + "again8;");
        due("again", x.style(4), 8);
    }

    private static void textIsEmptyThen() {
        says("THE TEXT (it is empty then)");
        CitedWorks x = new CitedWorks();
        for (String text : new String[] {"more yes;", "more", "run 1;", "run 2;run", " ".repeat(200), ";".repeat(200)}) {
            feedAll(x, text);
            due("bytes of '" + text + "'", x.count(8), text.length());
            x.read();
            due("none then", x.count(8), 0);
        }
        due("nothing of earlier texts is read", x.read(), 0);
        due("from the start", x.feed(1, ';'), 1);
        due("a fault", x.read(), -11);
        due("at 0", x.fault(), 0);
    }

    private static void styleIsAsItWas() {
        says("-10 less the number of its FAULT (THE STYLE is as it was)");
        int[] was = {2, 2, 4, 3, 9, 1, 1, 0, 9, 1};
        CitedWorks x = new CitedWorks();
        read(x, String.join("", CLAUSES));
        dueAll("style", style(x), was);
        String[] texts = {"form note;order", "names 2 show 1;names", "again 1;run 1;", "letters yes;;", "pages full", "initials no;more no;x"};
        int[] answers = {-11, -13, -12, -11, -11, -11};
        for (int k = 0; k < texts.length; k++) {
            due("read of '" + texts[k] + "'", read(x, texts[k]), answers[k]);
            dueAll("style behind '" + texts[k] + "'", style(x), was);
        }
    }

    private static void feedBounds() {
        says("Up to eight bytes (n 1 .. 8) of a long; OUTSIDE");
        CitedWorks x = new CitedWorks();
        for (int n : new int[] {-1, 0, 9, 10, 64, -8, MIN, MAX}) {
            due("feed " + n, x.feed(n, 0x2020202020202020L), OUTSIDE);
            due("bytes", x.count(8), 0);
        }
        int bytes = 0;
        for (int n = 1; n <= 8; n++) {
            bytes += n;
            due("feed " + n, x.feed(n, 0x2020202020202020L), bytes);
            due("bytes", x.count(8), bytes);
        }
        due("blanks", x.read(), 0);
    }

    private static void feedHighestFirst() {
        says("the highest of these first, come behind THE TEXT");
        String text = "again 5;";
        long all = 0;
        for (int k = 0; k < 8; k++) all = all << 8 | text.charAt(k);
        for (int n = 1; n <= 8; n++) {
            CitedWorks x = new CitedWorks();
            if (n < 8) x.feed(8 - n, all >>> 8 * n);
            due("the last " + n, x.feed(n, all), 8);
            due("read", x.read(), 1);
            due("again", x.style(4), 5);
            CitedWorks y = new CitedWorks();
            if (n < 8) y.feed(8 - n, all >>> 8 * n);
            long above = n < 8 ? -1L << 8 * n : 0;
            due("with other bytes above", y.feed(n, above | all), 8);
            due("read", y.read(), 1);
        }
        CitedWorks x = new CitedWorks();
        due("a byte of 255 is one byte", x.feed(8, 0x20202020202020FFL), 8);
        x.read();
        due("it cannot stand", x.fault(), 7);
        x.feed(8, 0xFF20202020202020L);
        x.read();
        due("as the highest", x.fault(), 0);
        x.feed(8, 0x20202020A0202020L);
        x.read();
        due("160 is no blank", x.fault(), 4);
        x.feed(8, Long.MIN_VALUE);
        x.read();
        due("128", x.fault(), 0);
    }

    private static void faultOfTheLatestRead() {
        says("The byte of the FAULT of the latest read(); NONE");
        CitedWorks x = new CitedWorks();
        due("nothing is read", x.fault(), NONE);
        feedAll(x, "form x");
        due("still nothing is read", x.fault(), NONE);
        x.read();
        due("a fault", x.fault(), 5);
        due("asked again", x.fault(), 5);
        feedAll(x, "more yes;run 1;");
        due("fed, not read", x.fault(), 5);
        x.read();
        due("another fault", x.fault(), 13);
        x.keep(0);
        x.feed(0, 0);
        x.back(0);
        due("a version has none of it", x.fault(), 13);
        read(x, "more yes;");
        due("none", x.fault(), NONE);
        read(x, "x");
        due("at 0", x.fault(), 0);
        x.read();
        due("none in nothing", x.fault(), NONE);
    }

    private static void styleBounds() {
        says("Of THE STYLE: what = 0 .. 9; OUTSIDE");
        CitedWorks x = new CitedWorks();
        read(x, String.join("", CLAUSES));
        dueAll("style", style(x), 2, 2, 4, 3, 9, 1, 1, 0, 9, 1);
        for (int what : new int[] {-1, 10, MIN, MAX}) due("what " + what, x.style(what), OUTSIDE);
    }
}
