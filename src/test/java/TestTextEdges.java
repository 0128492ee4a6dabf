/** The edges of texts: promise 10, and what an E of promise 12 is at its bounds. */
public final class TestTextEdges {
    private static final String SOUND = "may 1;likes 1;learns 1;";
    private static final String REST = ";likes 1;learns 1;";
    private static final String[] KEYS = {"may", "likes", "learns", "or", "and", "not"};
    private static final String[] NAMES = {"price", "parts", "place", "many", "guest", "left"};

    private TestTextEdges() {
    }

    private static void due(String call, long got, long want) {
        Check.due(call, got, want);
    }

    public static void main(String[] args) {
        room();
        stays();
        afterTheEnd();
        aheadOfTheFirst();
        betweenTokens();
        insideOfAnE();
        words();
        numbers();
        keysOutOfPlace();
        endsTooEarly();
        fiveOpen();
        openNoMore();
        faultsBehindFaults();
        longTexts();
        grammar();
        wraps();
        compares();
        bounds();
        Check.end();
    }

    private static void fault(String text, int place) {
        CardNobodyReads x = Cards.blank();
        due("10: fault of " + text, Cards.text(x, text), -100 - place);
        due("10: the tape is empty after " + text, x.count(6), 0);
        due("10: no text by " + text, x.count(4), 1);
    }

    private static void sound(String text) {
        CardNobodyReads x = Cards.blank();
        due("10: " + text, Cards.text(x, text), 1);
        due("10: the tape is empty after " + text, x.count(6), 0);
        due("10: a text by " + text, x.count(4), 2);
    }

    /** The fault of what stands where an E of may does, told from its own first byte; the end is its size. */
    private static void faultOfE(String e, int place) {
        fault("may " + e + REST, 4 + place);
        fault("may 1;likes " + e + ";learns 1;", 12 + place);
        fault("may 1;likes 1;learns " + e + ";", 21 + place);
    }

    private static void soundE(String e) {
        sound("may " + e + REST);
        sound("may 1;likes " + e + ";learns 1;");
        sound("may 1;likes 1;learns " + e + ";");
    }

    // ---- how many, and what stays

    private static void room() {
        CardNobodyReads x = Cards.blank();
        for (int t = 1; t < 6; t++) {
            due("10: text " + t, Cards.text(x, SOUND), t);
        }
        due("10: a seventh", Cards.text(x, SOUND), -4);
        due("10: full again", x.text(), -4);
        due("10: its tape stays", x.count(6), SOUND.length());
        Edge.leaves("10: full ahead of a fault", Cards::full, CardNobodyReads::text, -4);
        Edge.leaves("10: full ahead of an empty tape", TestTextEdges::fullWithoutTape, CardNobodyReads::text, -4);
        CardNobodyReads y = Cards.blank();
        for (int i = 0; i < 8; i++) {
            due("10: faults are no texts", Cards.text(y, "may"), -103);
        }
        due("10: the next number", Cards.text(y, SOUND), 1);
    }

    private static CardNobodyReads fullWithoutTape() {
        CardNobodyReads x = Cards.blank();
        x.line(1, 1);
        for (int t = 1; t < 6; t++) {
            Cards.text(x, SOUND);
        }
        return x;
    }

    private static void stays() {
        Edge.leaves("10: a fault leaves all but the tape", () -> Cards.half("may 1;likes ?"), CardNobodyReads::text,
                -112, () -> Cards.half(""));
        Edge.leaves("10: so does an empty one", () -> Cards.half(""), CardNobodyReads::text, -100,
                () -> Cards.half(""));
        Edge.leaves("10: a late fault, too", () -> Cards.half(SOUND + ";"), CardNobodyReads::text, -123,
                () -> Cards.half(""));
        CardNobodyReads x = Cards.half(SOUND);
        due("10: a text", x.text(), 2);
        due("10: is not the law", x.count(5), 1);
        due("10: changes nothing else", x.sets(), 36);
        due("10: the tape is empty", x.count(6), 0);
    }

    // ---- every byte at some places

    private static boolean isBlank(int b) {
        return b == 32 || b == 10;
    }

    private static void afterTheEnd() {
        for (int b = 0; b < 256; b++) {
            if (isBlank(b)) {
                sound(SOUND + (char) b);
                fault(SOUND + (char) b + "1", 24);
            } else {
                fault(SOUND + (char) b, 23);
                fault(SOUND + " \n" + (char) b, 25);
            }
        }
    }

    private static void aheadOfTheFirst() {
        for (int b = 0; b < 256; b++) {
            if (isBlank(b)) {
                sound((char) b + SOUND);
            } else {
                fault((char) b + SOUND, 0);
                fault("\n " + (char) b + SOUND, 2);
            }
        }
    }

    private static void betweenTokens() {
        for (int b = 0; b < 256; b++) {
            boolean digit = b >= '0' && b <= '9';
            if (isBlank(b)) {
                sound("may" + (char) b + "1" + (char) b + REST);
                fault("ma" + (char) b + "y 1" + REST, 0);
            } else if (digit) {
                sound("may" + (char) b + REST);
                sound("may 1" + (char) b + REST);
            } else if (b == '-') {
                sound("may" + (char) b + "1" + REST);
                fault("may 1" + (char) b + REST, 6);
            } else if ("+*<=".indexOf(b) >= 0) {
                fault("may" + (char) b + "1" + REST, 3);
                fault("may 1" + (char) b + REST, 6);
            } else if (b == '(') {
                fault("may" + (char) b + "1" + REST, 5);
                fault("may 1" + (char) b + REST, 5);
            } else if (b == ';') {
                fault("may" + (char) b + "1" + REST, 3);
                fault("may 1" + (char) b + REST, 6);
            } else {
                boolean letter = b >= 'a' && b <= 'z';
                fault("may" + (char) b + "1" + REST, letter ? 0 : 3);
                fault("may 1" + (char) b + REST, 5);
            }
        }
    }

    private static void insideOfAnE() {
        for (int b = 0; b < 256; b++) {
            boolean begins = b >= '0' && b <= '9';
            if (begins) {
                sound("may 1+" + (char) b + REST);
            } else if (b == '-' || b == '(' || isBlank(b)) {
                fault("may 1+" + (char) b + REST, 7);
            } else {
                fault("may 1+" + (char) b + REST, 6);
            }
        }
    }

    // ---- words and numbers

    private static void words() {
        for (String name : NAMES) {
            soundE(name);
            soundE("1+" + name + "*2");
            wrongWords(name);
            fault("may " + name.toUpperCase() + REST, 4);
            fault(name + " 1" + REST, 0);
            fault("may 1 " + name + REST, 6);
        }
        for (String key : KEYS) {
            faultOfE(key.equals("not") ? "nots" : key, 0);
            wrongWords(key);
        }
        soundE("not 1");
        soundE("1 or 2");
        soundE("1 and 2");
        fault("may 1 ors 2" + REST, 6);
        fault("may 1 o 2" + REST, 6);
        fault("may 1 an 2" + REST, 6);
        fault("may 1 ands 2" + REST, 6);
        fault("may 1 or2or" + REST, 11);
        sound("may 1or2and3" + REST);
        sound("may not(1)" + REST);
        sound("may1;likes1;learns1;");
        sound("may-1;likes-1;learns-1;");
        sound("may(1);likes(1);learns(1);");
        fault("maynot 1" + REST, 0);
        fault("may notprice" + REST, 4);
        fault("may 1 or not" + REST, 12);
        fault("may 1 ornot 1" + REST, 6);
        fault("lik es 1;", 0);
        fault("may 1;likes 1;learn 1;", 14);
        fault("may 1;like 1;learns 1;", 6);
        fault("mays 1;", 0);
        fault("ma 1;", 0);
        fault("xay 1;", 0);
        fault("max 1;", 0);
    }

    private static void wrongWords(String word) {
        faultOfE(word.substring(1) + "q", 0);
        faultOfE(word.substring(0, word.length() - 1) + "q", 0);
        faultOfE("q" + word.substring(1), 0);
        faultOfE(word + "q", 0);
        faultOfE("q" + word, 0);
        faultOfE(word + word, 0);
    }

    private static void numbers() {
        for (String number : new String[] {"0", "9", "00", "10", "000", "999", "0000", "9999", "0001"}) {
            soundE(number);
            soundE("1+" + number);
        }
        for (String number : new String[] {"00000", "10000", "99999", "00001", "123456", "9999999999999999999"}) {
            faultOfE(number, 0);
            faultOfE("1+" + number, 2);
            faultOfE("(1<" + number, 3);
        }
        faultOfE("1 1", 2);
        faultOfE("9999 9999", 5);
        faultOfE("9999\n0", 5);
        faultOfE("1234 5", 5);
        fault("may 12345", 4);
        fault("12345", 0);
    }

    // ---- keys where they can't stand

    private static void keysOutOfPlace() {
        for (String key : KEYS) {
            if (!key.equals("may")) {
                fault(key + " 1" + REST, 0);
            }
            if (!key.equals("likes")) {
                fault("may 1;" + key + " 1;learns 1;", 6);
            }
            if (!key.equals("learns")) {
                fault("may 1;likes 1;" + key + " 1;", 14);
            }
            fault(SOUND + key + " 1;", 23);
            fault("may " + key, key.equals("not") ? 7 : 4);
            if (!key.equals("or") && !key.equals("and")) {
                fault("may 1 " + key + " 1" + REST, 6);
            }
        }
        fault("may 1 likes 1 learns 1", 6);
        fault("may 1;likes 1 learns 1", 14);
        fault("may;", 3);
        fault("may 1;;", 6);
        fault("may 1;likes;", 11);
        fault("may 1;likes 1;learns;", 20);
        fault("may 1;likes 1;learns 1;;", 23);
        fault(";" + SOUND, 0);
    }

    private static void endsTooEarly() {
        for (int size = 0; size < SOUND.length(); size++) {
            String some = SOUND.substring(0, size);
            boolean cutsWord = size > 0 && Character.isLetter(SOUND.charAt(size - 1))
                    && Character.isLetter(SOUND.charAt(size));
            int word = size;
            while (word > 0 && Character.isLetter(SOUND.charAt(word - 1))) {
                word--;
            }
            fault(some, cutsWord ? word : size);
            if (!cutsWord) {
                fault(some + " ", size + 1);
                fault(some + "\n\n ", size + 3);
            }
        }
        for (String e : new String[] {"1+", "1-", "1*", "1<", "1=", "-", "(", "(1", "not", "1 or", "1 and", "not -("}) {
            fault("may " + e, 4 + e.length());
            fault("may " + e + "  ", 6 + e.length());
            faultOfE(e, e.length());
        }
    }

    // ---- five that are open

    private static void fiveOpen() {
        String[] opens = {"(", "not ", "- "};
        // all ways of five of the three, as far as a not may stand there
        for (int way = 0; way < 243; way++) {
            StringBuilder five = new StringBuilder();
            StringBuilder ends = new StringBuilder();
            boolean can = true;
            boolean one = false;
            int rest = way;
            for (int i = 0; i < 5; i++) {
                String open = opens[rest % 3];
                rest /= 3;
                can &= !(one && open.equals("not "));
                one = open.equals("- ") || one && !open.equals("(");
                five.append(open);
                ends.append(open.equals("(") ? ")" : "");
            }
            if (can) {
                sound("may " + five + "1" + ends + REST);
                fault("may " + five + "(1" + ends + REST, 4 + five.length());
                fault("may " + five + "-1" + ends + REST, 4 + five.length());
                fault("may " + five + "not 1" + ends + REST, 4 + five.length());
                // a - has ended with its ONE, so that a ( may stand there, and the text ends too early
                boolean ended = five.toString().endsWith("- ");
                fault("may " + five + "1 <(1", 4 + five.length() + (ended ? 5 : 3));
            }
        }
        for (String e : new String[] {"((((((1", "------1", "not not not not not not 1"}) {
            int place = e.startsWith("n") ? 20 : 5;
            faultOfE(e, place);
        }
    }

    private static void openNoMore() {
        soundE("(1)+(1)+(1)+(1)+(1)+(1)");
        soundE("-1+-1+-1+-1+-1+-1+-1");
        soundE("-1*-1*-1*-1*-1*-1*-1");
        soundE("((((1)+(1))+(1))+(1))+(((((1)))))");
        soundE("-----1*(((((1)))))");
        soundE("-(1)<(((((1)))))");
        soundE("not 1 and(((((1)))))");
        soundE("not 1 or not not not not not 1");
        soundE("not not 1 and not not not not not 1");
        soundE("not 1<((((1))))");
        faultOfE("not 1<(((((1)))))", 10);
        faultOfE("not 1+(((((1)))))", 10);
        faultOfE("not 1*-----1", 10);
        faultOfE("not(1)*-----1", 11);
        faultOfE("not(1)<(((((1)))))", 11);
        faultOfE("not -1<(((((1)))))", 11);
        faultOfE("(1+(((((1))))))", 7);
        faultOfE("(-1+(((((1))))))", 8);
        faultOfE("(1)+((((((1))))))", 9);
        faultOfE("-(1)*------1", 10);
        soundE("(((((1)+(1)))))");
        faultOfE("(((((1)+((1))))))", 9);
        faultOfE("(((((1)+(1))))))", 15);
        faultOfE("(((((1)-1)))))", 13);
        soundE("(((((1-1)))))");
        soundE("(((((1)))))-1-(((((1)))))");
        soundE("-----1-1");
        soundE("not not not not not 1-1");
        sound("may (((((1)))));likes -----1;learns not not not not not 1;");
    }

    private static void faultsBehindFaults() {
        fault("? ! 12345", 0);
        fault("may 1 ? ((((((", 6);
        fault("may ((((((12345", 9);
        fault("may 12345 foo", 4);
        fault("may foo 12345", 4);
        fault("may 1 2 ?", 6);
        fault("may )(", 4);
        fault("may 1;likes 1;learns 1;\0", 23);
        fault("may 1\0;", 5);
        fault("\0", 0);
    }

    private static void longTexts() {
        sound(SOUND + " ".repeat(137));
        sound(" ".repeat(137) + SOUND);
        fault(SOUND + " ".repeat(136) + ";", 159);
        fault(" ".repeat(160), 160);
        fault(" ".repeat(159) + "?", 159);
        fault("a".repeat(160), 0);
        fault("1".repeat(160), 0);
        fault("may " + "1".repeat(156), 4);
        fault("may 1" + "+1".repeat(77) + "+", 160);
        fault("may 1" + "+1".repeat(77) + " ", 160);
        sound("may 1" + "+1".repeat(68) + REST + " ");
        sound("may 1" + "*1".repeat(68) + REST);
        sound("may 1" + "or 1".repeat(34) + REST);
        sound("may 1" + "and 1".repeat(27) + REST);
        sound("may 1" + "--1".repeat(45) + REST);
        CardNobodyReads x = Cards.blank();
        x.line(1, 1);
        due("10: a long one", Cards.text(x, "may 1;likes 1" + "+1".repeat(68) + ";learns 1;"), 1);
        due("10: a long one", Cards.text(x, "may 1;likes 1;learns 9" + "+9".repeat(68) + ";"), 2);
        x.force(1);
        due("12: many added", x.asks(1, 0, 0, 0, 0), 69);
        x.force(2);
        due("12: many added", x.asks(2, 0, 0, 0, 0), 621);
    }

    // ---- what an E is

    /** An E where price 50, parts 21 (many 3), place 1, guest 2, left 600. */
    private static void says(String e, int value) {
        CardNobodyReads x = Cards.blank();
        x.line(1, 1);
        x.line(7, 50);
        due("10: " + e, Cards.text(x, "may 1;likes " + e + ";learns " + e + ";"), 1);
        due("10: " + e, Cards.text(x, "may " + e + REST), 2);
        x.force(1);
        due("12: likes " + e, x.asks(1, 1, 21, 2, 600), Math.max(0, Math.min(99, value)));
        due("12: learns " + e, x.asks(2, 1, 21, 2, 600), Math.max(0, Math.min(999, value)));
        x.force(2);
        due("12: may " + e, x.asks(0, 1, 21, 2, 600), value == 0 ? 0 : 1);
    }

    private static void truth(String e, boolean is) {
        says(e, is ? 1 : 0);
    }

    private static void grammar() {
        says("1+2*3", 7);
        says("2*3+1", 7);
        says("10-3-2", 5);
        says("10-(3-2)", 9);
        says("10-3+2", 9);
        says("2*3*4", 24);
        says("-2*-3", 6);
        says("- - 5", 5);
        says("-(2-9)", 7);
        says("5--2", 7);
        says("(1<2)+(3=3)+(4<4)", 2);
        says("(7 or 0)+(0 or 0)", 1);
        says("(7 and 8)*5", 5);
        says("(not 7)+(not 0)*3", 3);
        says("price+parts+many+guest+place", 77);
        says("left-100", 500);
        truth("1 or 0 and 0", true);
        truth("0 and 0 or 1", true);
        truth("0 and(0 or 1)", false);
        truth("not 0 or 1", true);
        truth("not(0 or 1)", false);
        truth("not 1 and 0", false);
        truth("not(1 and 0)", true);
        truth("not 0+1", false);
        truth("not 1<1", true);
        truth("not 2=2", false);
        truth("1+1<1+2", true);
        truth("2*2=1+3", true);
        truth("0-1 and 0-2", true);
        says("0-1", -1);
        CardNobodyReads x = Cards.blank();
        x.line(1, 1);
        Cards.text(x, "may 0-1;likes 1;learns 1;");
        x.force(1);
        due("12: less than 0 is true", x.asks(0, 0, 0, 0, 0), 1);
        due("16: less than 0 is true", x.sets(), 720);
    }

    private static void wraps() {
        // 8192 * 8192 * 32 is 2147483648, which wraps to the least int
        String least = "(8192*8192*32)";
        says(least, Cards.LEAST);
        says(least + "-1", Cards.MOST);
        says("-" + least, Cards.LEAST);
        says("0-" + least, Cards.LEAST);
        says(least + "*-1", Cards.LEAST);
        says(least + "+" + least, 0);
        says(least + "*2", 0);
        says("-" + least + "-1+1", Cards.LEAST);
        says("(" + least + "-1)*2+3", 1);
        says("(" + least + "-1)*(" + least + "-1)", 1);
        says("9999*9999*9999", 9999 * 9999 * 9999);
        says("9999*9999*42", 9999 * 9999 * 42);
        says("9999*9999*43", 9999 * 9999 * 43);
        says("8192*8192*64", 0);
        says("8192*8192*64+7", 7);
        truth(least + "<0", true);
        truth("0<" + least, false);
        truth(least + "<" + least + "-1", true);
        truth(least + "-1<" + least, false);
        truth(least + "=-" + least, true);
        truth(least + "-1=-(" + least + "+1)", true);
        truth("not 8192*8192*64", true);
        truth("8192*8192*64 or 0", false);
        truth("8192*8192*32 and 1", true);
    }

    private static void compares() {
        truth("1<2", true);
        truth("2<2", false);
        truth("3<2", false);
        truth("-2<-1", true);
        truth("-1<-2", false);
        truth("-1<0", true);
        truth("0<-1", false);
        truth("1=2", false);
        truth("2=2", true);
        truth("-2=2", false);
        truth("0=0", true);
        truth("5 or 0", true);
        truth("0 or 5", true);
        truth("0 or 0", false);
        truth("5 and 0", false);
        truth("0 and 5", false);
        truth("5 and 7", true);
        truth("2 and 1", true);
        truth("not 0", true);
        truth("not 1", false);
        truth("not 5", false);
        truth("not -1", false);
        truth("not not 5", true);
    }

    private static void bounds() {
        for (int v : new int[] {0, 1, 98, 99, 100, 998, 999, 1000, 9999}) {
            says("" + v, v);
            says("-" + v, -v);
        }
    }
}
