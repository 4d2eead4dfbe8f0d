/**
 * The boundary cases of the text and its buffer, one test for each sentence of the document that
 * names one: TEXT, the parse errors, and promises 1 to 4.
 */
public final class TextEdgesTest {
    private static final String HEAD = Texts.HEAD;
    private static final String BLANKS = " ".repeat(20);

    public static void main(String[] args) {
        textOf600Bytes();
        textThatEndsTooEarlyAt600();
        blanksSeparateAndAreIgnored();
        blanksAreTwoBytesAlone();
        wordsOfOneToEightLetters();
        lettersAreAToZ();
        numbersOfOneToThreeDigits();
        digitsAre0To9();
        anyOtherByteIsInvalid();
        headIsWhole();
        headInRange();
        bankOfStatementInRange();
        rowOfStatementInRange();
        weakInRange();
        askInRange();
        settingsInRange();
        settingsThatAreNotTold();
        mostTwentyAsks();
        eachSettingOnce();
        tradingOnce();
        weakOnceForARow();
        smallestPosition();
        smallestCode();
        endTooEarlyAtEachPlace();
        newObject();
        appendUpTo600();
        appendBytes();
        parseLength();
        parseOfNothing();
        parseEmptiesBuffer();
        parseRefused();
        errorPositions();
        Check.end();
    }

    // ---- TEXT

    /** "A memory is described by a text of at most 600 bytes." */
    private static void textOf600Bytes() {
        Texts.right(HEAD + " ".repeat(600 - HEAD.length() - 8) + "trading;");
        Texts.right(HEAD + "\n".repeat(600 - HEAD.length()));
        Texts.right(" ".repeat(600 - HEAD.length()) + HEAD);
        RefreshTrader x = Memory.of(HEAD + "ask 0 0 0;".repeat(20) + " ".repeat(375) + "slots 4;\n");
        Check.same("the last statement of 600 bytes", x.setting(0), 4);
        Check.same("the requests of 600 bytes", x.size(5), 20);
    }

    private static void textThatEndsTooEarlyAt600() {
        String blanks = " ".repeat(600 - HEAD.length() - 7);
        Texts.bad(1, HEAD + blanks + "trading^");
        Texts.bad(1, HEAD + blanks + "slots 1^");
        Texts.bad(1, HEAD + blanks + "slots  ^");
        Texts.bad(1, HEAD + blanks + " gain 9^");
        Texts.bad(1, HEAD + blanks + "      ^!");
        Texts.bad(1, HEAD + blanks + "      ^;");
        Texts.bad(1, HEAD + blanks + "^tradinG");
        Texts.bad(3, HEAD + blanks + "gain ^99");
        Texts.bad(1, " ".repeat(600) + "^");
        Texts.bad(1, "^" + "m".repeat(600));
        Texts.bad(1, "^" + "1".repeat(600));
        Texts.bad(1, HEAD + "^" + ";".repeat(584));
    }

    /** "Spaces (byte 32) and line feeds (byte 10) separate tokens and are otherwise ignored." */
    private static void blanksSeparateAndAreIgnored() {
        Texts.right("memory 1 1 4 1;");
        Texts.right("memory\n1\n1\n4\n1\n;\n");
        Texts.right(" \n memory \n\n 1  1 \n4  1  ;  slots \n 2 ; trading\n;");
        Texts.right("memory1 1 4 1;slots2;hot3;weak0 0 9 9;ask0 0 0;trading;");
        Texts.bad(1, "^mem ory 1 1 4 1;");
        Texts.bad(1, "memory 1 1 4 1 ^0;");
        Texts.bad(1, HEAD + "^slo ts 1;");
        Texts.bad(1, HEAD + "^slo\nts 1;");
        Texts.bad(1, HEAD + "gain 1 ^0;");
        Texts.bad(1, "memory ^1141;");
    }

    private static void blanksAreTwoBytesAlone() {
        for (int code : new int[] {0, 8, 9, 11, 12, 13, 31, 33, 127, 138, 160}) {
            Texts.bad(1, "memory^" + (char) code + "1 1 4 1;");
            Texts.bad(1, "^" + (char) code + "memory 1 1 4 1;");
            Texts.bad(1, HEAD + "^" + (char) code);
        }
    }

    /** "a word (a maximal run of letters a to z, 1 to 8 letters) ... A longer run ... is an invalid token." */
    private static void wordsOfOneToEightLetters() {
        Texts.right(HEAD + "patience 9;");
        Texts.bad(1, HEAD + "^patiencee 9;");
        Texts.bad(1, HEAD + "^patienc 9;");
        Texts.bad(1, HEAD + "^p 9;");
        Texts.bad(1, HEAD + "^patiencepatience 9;");
        Texts.bad(1, "^memorymem 1 1 4 1;");
        Texts.bad(1, "^memorymemory1 1 4 1;");
        Texts.bad(1, HEAD + "slots 2^slotsslots;");
    }

    private static void lettersAreAToZ() {
        // A letter would make the word longer, so that it were wrong from its start on.
        Texts.bad(1, "^memorya1 1 4 1;");
        Texts.bad(1, "^memoryz1 1 4 1;");
        for (char c : "`{@[AZ_\u00e1\u00fa".toCharArray()) {
            Texts.bad(1, "memory^" + c + "1 1 4 1;");
        }
        for (String word : Texts.SETTINGS) {
            Texts.bad(1, HEAD + "^" + word.toUpperCase().charAt(0) + word.substring(1) + " 1;");
            Texts.bad(1, HEAD + "^" + word.substring(1) + " 1;");
            Texts.bad(1, HEAD + "^" + (char) (word.charAt(0) + 1) + word.substring(1) + " 1;");
            Texts.bad(1, HEAD + "^" + word.substring(0, word.length() - 1) + "z 1;");
            Texts.bad(1, HEAD + "^" + word + "s 1;");
        }
    }

    /** "a number (a maximal run of digits, 1 to 3 digits) ... A longer run ... is an invalid token." */
    private static void numbersOfOneToThreeDigits() {
        Texts.right("memory 1 1 9 9;");
        Texts.right("memory 01 01 09 09;");
        Texts.right("memory 001 001 009 009;");
        Texts.bad(1, "memory ^0001 1 9 9;");
        Texts.bad(1, "memory 1 ^0001 9 9;");
        Texts.bad(1, "memory 1 1 ^0009 9;");
        Texts.bad(1, "memory 1 1 9 ^0009;");
        Texts.bad(1, "memory ^1000 1 9 9;");
        Texts.bad(1, "memory ^99999999999999999999 1 9 9;");
        Texts.bad(1, "memory ^4294967297 1 9 9;");
        Texts.bad(1, HEAD + "gain ^0002;");
        Texts.bad(1, HEAD + "gain ^00020;");
        Check.same("leading zeros are no octal number", Memory.of("memory 1 010 077 010;").size(1), 10);
        Check.same("leading zeros of the bound", Memory.of("memory 1 010 077 010;").size(2), 77);
    }

    private static void digitsAre0To9() {
        Check.same("the digit 0", Memory.of("memory 1 1 9 10;").size(3), 10);
        Check.same("the digit 9", Memory.of("memory 1 1 9 19;").size(3), 19);
        Texts.bad(1, "memory 1 1 9 1^/;");
        Texts.bad(1, "memory 1 1 9 1^:;");
        Texts.bad(1, "memory 1 1 9 1^\u00b2;");
        Texts.bad(1, "memory ^+1 1 9 1;");
        Texts.bad(1, "memory ^-1 1 9 1;");
        Texts.bad(1, "memory 1 1 9^.0 1;");
    }

    /** "... and any other byte, is an invalid token." Each of the 256 in a place where many may stand. */
    private static void anyOtherByteIsInvalid() {
        for (int code = 0; code < 256; code++) {
            char c = (char) code;
            String start = "memory 1 1 9 1";
            if (c == ' ' || c == '\n' || c >= '0' && c <= '9') {
                Texts.right(start + c + ";");
            } else if (c == ';') {
                Texts.bad(1, start + ";^;");
            } else {
                Texts.bad(1, start + "^" + c + ";");
            }
        }
    }

    private static void headIsWhole() {
        Texts.bad(1, "^");
        Texts.bad(1, "^;");
        Texts.bad(1, "^1 1 4 1;");
        Texts.bad(1, "^slots 1;");
        Texts.bad(1, "memory ^;");
        Texts.bad(1, "memory 1 ^;");
        Texts.bad(1, "memory 1 1 ^;");
        Texts.bad(1, "memory 1 1 4 ^;");
        Texts.bad(1, "memory 1 1 4 1 ^slots 1;");
        Texts.bad(1, "memory 1 1 4 1 ^1;");
        Texts.bad(1, "memory ^memory 1 1 4 1;");
        Texts.bad(1, HEAD + "^memory 1 1 4 1;");
        Texts.bad(1, HEAD + "^;");
        Texts.bad(1, HEAD + "trading;^;");
        Texts.bad(1, HEAD + "^0;");
    }

    /** "banks is 1 to 4, rows 1 to 16, the bound of a memory 4 to 999, interval 1 to 99" */
    private static void headInRange() {
        String[] parts = {"memory", "1", "1", "4", "1"};
        int[] least = {0, 1, 1, 4, 1};
        int[] greatest = {0, 4, 16, 999, 99};
        for (int part = 1; part < parts.length; part++) {
            String[] right = parts.clone();
            right[part] = "" + least[part];
            Texts.right(String.join(" ", right) + ";");
            right[part] = "" + greatest[part];
            Texts.right(String.join(" ", right) + ";");
            Check.same("the greatest of part " + part,
                    Memory.of(String.join(" ", right) + ";").size(part - 1), greatest[part]);
            right[part] = "^" + (least[part] - 1);
            Texts.bad(3, String.join(" ", right) + ";");
            right[part] = "^0";
            Texts.bad(3, String.join(" ", right) + ";");
            right[part] = "^" + (greatest[part] + 1);
            Texts.bad(greatest[part] == 999 ? 1 : 3, String.join(" ", right) + ";");
        }
        Texts.bad(3, "memory ^999 1 4 1;");
        Texts.bad(3, "memory 1 ^999 4 1;");
        Texts.bad(3, "memory 1 1 4 ^999;");
    }

    /** "bank 0 to banks - 1", for weak and for ask */
    private static void bankOfStatementInRange() {
        for (int banks = 1; banks <= 4; banks++) {
            String head = "memory " + banks + " 1 9 9;";
            Texts.right(head + "weak 0 0 5 5; ask 0 0 0;");
            Texts.right(head + "weak " + (banks - 1) + " 0 5 5; ask 0 " + (banks - 1) + " 0;");
            Texts.bad(3, head + "weak ^" + banks + " 0 5 5;");
            Texts.bad(3, head + "ask 0 ^" + banks + " 0;");
        }
    }

    /** "row 0 to rows - 1", for weak and for ask */
    private static void rowOfStatementInRange() {
        for (int rows = 1; rows <= 16; rows++) {
            String head = "memory 2 " + rows + " 9 9;";
            Texts.right(head + "weak 1 0 5 5; ask 0 1 0;");
            Texts.bad(3, head + "weak 1 ^" + rows + " 5 5;");
            Texts.bad(3, head + "ask 0 1 ^" + rows + ";");
            RefreshTrader x = Memory.of(head + "weak 1 " + (rows - 1) + " 5 6; ask 7 1 " + (rows - 1) + ";");
            Check.same("the last row is weak", x.row(1, rows - 1, 8), 6);
            Check.same("a request for the last row", x.request(0, 1), rows - 1);
        }
    }

    /** "the bound of a weak row 1 to 999 ... tick 0 to 999" */
    private static void weakInRange() {
        Texts.bad(3, HEAD + "weak 0 0 ^0 0;");
        Texts.bad(1, HEAD + "weak 0 0 ^1000 0;");
        Texts.bad(1, HEAD + "weak 0 0 9 ^1000;");
        RefreshTrader x = Memory.of(HEAD + "weak 0 0 1 0; weak 1 2 999 999;");
        Check.same("the least bound", x.row(0, 0, 7), 1);
        Check.same("the least tick", x.row(0, 0, 8), 0);
        Check.same("the greatest bound", x.row(1, 2, 7), 999);
        Check.same("the greatest tick", x.row(1, 2, 8), 999);
        Texts.right("memory 1 1 4 1; weak 0 0 3 0;");
        Texts.right("memory 1 1 999 1; weak 0 0 999 0;");
    }

    /** "tick 0 to 999" */
    private static void askInRange() {
        Texts.bad(1, HEAD + "ask ^1000 0 0;");
        RefreshTrader x = Memory.of(HEAD + "ask 0 0 0; ask 999 1 2;");
        Check.same("the least tick", x.request(0, 2), 0);
        Check.same("the greatest tick", x.request(1, 2), 999);
    }

    /** "The number of a setting is slots 1 to 4 ..., most 1 to 8 ..." */
    private static void settingsInRange() {
        for (int what = 0; what < Texts.SETTINGS.length; what++) {
            String start = HEAD + Texts.SETTINGS[what] + " ";
            int least = Texts.LEAST[what];
            int greatest = Texts.GREATEST[what];
            Check.same("the least of setting " + what, Memory.of(start + least + ";").setting(what), least);
            Check.same("the greatest of setting " + what, Memory.of(start + greatest + ";").setting(what), greatest);
            Texts.bad(3, start + "^" + (greatest + 1) + ";");
            Texts.bad(3, start + "^999;");
            if (least == 1) {
                Texts.bad(3, start + "^0;");
            }
            Texts.bad(1, start + "^;");
            Texts.bad(1, start + "1 ^1;");
        }
    }

    /** "(1 if it is not told), most 1 to 8 (4), ahead 0 to 8 (0), ..." */
    private static void settingsThatAreNotTold() {
        RefreshTrader x = Memory.of(HEAD);
        for (int what = 0; what < Texts.SETTINGS.length; what++) {
            Check.same("setting " + what + " is not told", x.setting(what), Texts.NOT_TOLD[what]);
        }
        Check.same("trading is not told", x.size(9), 0);
        Check.same("no weak row is told", x.row(0, 0, 7), -1);
        Check.same("no request is told", x.size(5), 0);
    }

    // ---- parse errors

    /** "There are at most 20 "ask" statements." "4: the word of a 21st ask." */
    private static void mostTwentyAsks() {
        String twenty = HEAD + "ask 7 1 0;".repeat(20);
        Texts.right(twenty);
        Texts.bad(4, twenty + "^ask 7 1 0;");
        Texts.bad(4, twenty + "^ask");
        Texts.bad(4, twenty + "^ask 9999 9 x");
        Texts.bad(4, twenty + "trading; slots 1;\n^ask 7 1 0; slots 1;");
        Texts.bad(1, twenty + "^asks 7 1 0;");
        Texts.bad(3, HEAD + "ask 7 1 0;".repeat(19) + "ask 7 1 ^3; ask 7 1 0; ask 7 1 0;");
        RefreshTrader x = Memory.of(twenty);
        Check.same("twenty more in the next text", Memory.parse(x, twenty), 0);
        Check.same("behind them a 21st", Memory.parse(x, twenty + "ask 7 1 0;"), 4);
        Check.same("twenty once more", Memory.parse(x, twenty), 0);
        Check.same("requests of one text", x.size(5), 20);
        Texts.right(twenty + "weak 1 0 5 0; trading; slots 1;");
    }

    /** "Each setting ... can occur once." "2: the word of a setting ... that occurs a second time" */
    private static void eachSettingOnce() {
        for (int what = 0; what < Texts.SETTINGS.length; what++) {
            String word = Texts.SETTINGS[what];
            Texts.bad(2, HEAD + word + " 1;^" + word + " 1;");
            Texts.bad(2, HEAD + word + " 1; trading;\n ^" + word);
            Texts.bad(2, HEAD + word + " 1;^" + word + " 999 x");
            Texts.bad(2, HEAD + word + " " + Texts.NOT_TOLD[what] + ";^" + word + " " + Texts.NOT_TOLD[what] + ";");
            Texts.bad(3, HEAD + word + " ^999;" + word + " 1;");
            String others = "";
            for (String other : Texts.SETTINGS) {
                others += other.equals(word) ? "" : other + " 1;";
            }
            Texts.right(HEAD + others + word + " 1;");
        }
    }

    private static void tradingOnce() {
        Texts.right(HEAD + "trading;");
        Texts.bad(2, HEAD + "trading;^trading;");
        Texts.bad(2, HEAD + "trading; slots 1; ^trading 9999");
        Texts.bad(2, HEAD + "trading; ^trading");
    }

    /** "2: ... the row of a second weak for the same row of the same bank." */
    private static void weakOnceForARow() {
        Texts.right(HEAD + "weak 0 0 5 5; weak 0 1 5 5; weak 0 2 5 5; weak 1 0 5 5; weak 1 1 5 5; weak 1 2 5 5;");
        Texts.bad(2, HEAD + "weak 0 0 5 5; weak 0 ^0 5 5;");
        Texts.bad(2, HEAD + "weak 1 2 5 5; weak 0 2 5 5; weak 1 1 5 5; weak 1 ^2 6 6;");
        Texts.bad(2, HEAD + "weak 1 2 999 999; weak 1 ^002 999 999;");
        Texts.bad(2, HEAD + "weak 1 2 5 5; weak 1 ^2 0 0;");
        Texts.bad(2, HEAD + "weak 1 2 5 5; weak 1 ^2");
        Texts.bad(2, HEAD + "weak 1 2 5 5; weak 1 ^2; trading; trading;");
        Texts.bad(3, HEAD + "weak 1 2 5 5; weak ^2 2 5 5;");
        Texts.bad(3, HEAD + "weak 1 2 5 5; weak 1 ^3 5 5;");
        Texts.bad(1, HEAD + "weak 1 2 5 5; weak 1 ^0002 5 5;");
    }

    /** "The error with the smallest position is reported" */
    private static void smallestPosition() {
        Texts.bad(3, "memory ^5 0 3 100 slots slots ! ;;");
        Texts.bad(1, "^memori 5 0 3 100;");
        Texts.bad(3, HEAD + "gain ^21; gain 1; gain 1 !");
        Texts.bad(2, HEAD + "gain 1; ^gain 21 !");
        Texts.bad(3, HEAD + "weak ^2 3 0 1000");
        Texts.bad(3, HEAD + "weak 1 ^3 0 1000");
        Texts.bad(3, HEAD + "weak 1 2 ^0 1000");
        Texts.bad(1, HEAD + "weak 1 2 9 ^1000");
        Texts.bad(3, HEAD + "ask 999 ^2 3");
        Texts.bad(1, HEAD + "ask ^1000 2 3");
        Texts.bad(1, HEAD + "trading ^! trading;");
        Texts.bad(3, "memory 1 1 ^3");
        Texts.bad(3, HEAD + "margin ^21");
    }

    /** "If several codes apply at one position, the smallest is reported." */
    private static void smallestCode() {
        Texts.bad(1, HEAD + "trading ^trading;");
        Texts.bad(1, HEAD + "slots ^slots 1;");
        Texts.bad(1, HEAD + "slots 1 ^slots 1;");
        Texts.bad(1, HEAD + "slots 1; trading ^slots 1;");
        Texts.bad(1, HEAD + "ask 0 0 0;".repeat(20) + "trading ^ask 0 0 0;");
        Texts.bad(1, HEAD + "ask 0 0 0;".repeat(20) + "slots ^ask 0 0 0;");
        Texts.bad(1, "memory ^9999 1 4 1;");
        Texts.bad(1, "memory 1 1 4 1 ^9;");
        Texts.bad(1, HEAD + "weak 0 0 5 5 ^0;");
    }

    /** "if the text ends too early, it is the length of the text." Or in a word, which is wrong then. */
    private static void endTooEarlyAtEachPlace() {
        String text = " memory 2 3 9 7; weak 1 2 5 8;trading ;ask 3 1 0 ; patience 7;\n";
        for (int length = 0; length <= text.length(); length++) {
            String cut = text.substring(0, length);
            boolean isInWord = length > 0 && length < text.length()
                    && Character.isLetter(text.charAt(length - 1)) && Character.isLetter(text.charAt(length));
            if (cut.trim().endsWith(";")) {
                Texts.right(cut);
            } else if (isInWord) {
                int start = length - 1;
                while (Character.isLetter(text.charAt(start - 1))) {
                    start--;
                }
                Texts.bad(1, cut.substring(0, start) + "^" + cut.substring(start));
            } else {
                Texts.bad(1, cut + "^");
            }
        }
    }

    // ---- promises 1 to 4

    /** "Creates a memory as with the text "memory 1 1 4 1;", with an empty input buffer." */
    private static void newObject() {
        Check.same("a new object", Picture.of(new RefreshTrader()), Picture.of(Memory.of("memory 1 1 4 1;")));
        RefreshTrader x = new RefreshTrader();
        Check.noArgument("the buffer is empty", () -> x.parse(1));
        Check.same("the first append", x.append(0, 0, 0, 0, 0), 20);
        Check.same("no parse yet", x.errorPosition(), -1);
        Check.same("no change yet", x.undo(), -1);
        Check.noState("slot 0 is empty", () -> x.restoreSnapshot(0));
        Check.noState("slot 1 is empty", () -> x.restoreSnapshot(1));
        Check.noIndex("no bank 1", () -> x.bank(1, 0));
        Check.noIndex("no row 1", () -> x.row(0, 1, 0));
        Check.noIndex("no request", () -> x.request(0, 0));
        RefreshTrader y = Memory.of("memory 1 1 4 1;");
        x.pass(200);
        y.pass(200);
        Check.same("it goes on alike", Picture.of(x), Picture.of(y));
    }

    private static int[] wordsOf(String twentySigns) {
        int[] words = new int[5];
        for (int i = 0; i < 20; i++) {
            words[i / 4] = words[i / 4] << 8 | twentySigns.charAt(i) & 255;
        }
        return words;
    }

    private static int append(RefreshTrader x, String twentySigns) {
        int[] w = wordsOf(twentySigns);
        return x.append(w[0], w[1], w[2], w[3], w[4]);
    }

    /** "NONE, with nothing appended, if it would exceed 600." */
    private static void appendUpTo600() {
        RefreshTrader x = new RefreshTrader();
        Check.same("20 bytes", append(x, "memory 2 3 9 7;     "), 20);
        for (int length = 40; length < 600; length += 20) {
            Check.same("more bytes", append(x, BLANKS), length);
        }
        Check.same("just 600 bytes", append(x, "            trading;"), 600);
        Check.same("620 bytes", append(x, "!!!!!!!!!!!!!!!!!!!!"), -1);
        Check.same("620 bytes again", append(x, "!!!!!!!!!!!!!!!!!!!!"), -1);
        Check.noArgument("the length is 600", () -> x.parse(601));
        Check.noArgument("it is not 620", () -> x.parse(620));
        Check.same("nothing was appended", x.parse(600), 0);
        Check.same("nor put in place of the last bytes", x.size(9), 1);
        Check.same("nor put in place of the first bytes", x.size(1), 3);
        Check.same("there is room again", append(x, BLANKS), 20);
    }

    /** "the four bytes of each argument, the most significant byte first" */
    private static void appendBytes() {
        String text = "memory 2 3 9 7; hot5";
        for (int at = 0; at < 20; at++) {
            for (int code : new int[] {0, 127, 128, 255}) {
                RefreshTrader x = new RefreshTrader();
                append(x, text.substring(0, at) + (char) code + text.substring(at + 1));
                Check.same("byte " + code + " at " + at, x.parse(20), 1);
                // A byte in a word leaves a word that is wrong from its first byte on.
                int due = at < 6 ? 0 : at >= 16 && at <= 18 ? 16 : at;
                Check.same("its place", x.errorPosition(), due);
            }
        }
        RefreshTrader x = new RefreshTrader();
        int[] all = {Integer.MIN_VALUE, Integer.MAX_VALUE, -1, 0, 1};
        for (int word : all) {
            Check.holds("any word is taken", x.append(word, word, word, word, word) > 0);
        }
        Check.same("but is no text", x.parse(100), 1);
        Check.same("from its first byte on", x.errorPosition(), 0);
    }

    /** "length: 0 to the length of the buffer" */
    private static void parseLength() {
        RefreshTrader x = new RefreshTrader();
        for (int length : new int[] {Integer.MIN_VALUE, -20, -1, 1, 20, 600, 601, Integer.MAX_VALUE}) {
            Check.noArgument("parse(" + length + ") of no bytes", () -> x.parse(length));
        }
        for (int length = 0; length <= 20; length++) {
            append(x, "memory 2 3 9 7;     ");
            Check.noArgument("one byte too many", () -> x.parse(21));
            int due = length >= 15 ? 0 : 1;
            Check.same("parse(" + length + ")", x.parse(length), due);
            int position = due == 0 ? -1 : length > 0 && length < 6 ? 0 : length;
            Check.same("the place in " + length, x.errorPosition(), position);
        }
    }

    private static void parseOfNothing() {
        RefreshTrader x = new RefreshTrader();
        Check.same("no bytes in an empty buffer", x.parse(0), 1);
        Check.same("they end too early", x.errorPosition(), 0);
        append(x, "memory 2 3 9 7;     ");
        Check.same("no bytes of a full text", x.parse(0), 1);
        Check.same("they end too early, too", x.errorPosition(), 0);
        Check.same("the memory stays", x.size(0), 1);
    }

    /** "the whole buffer is emptied; it is also empty after a success" */
    private static void parseEmptiesBuffer() {
        RefreshTrader x = new RefreshTrader();
        append(x, "memory 2 3 9 7;     ");
        append(x, "trading;            ");
        Check.same("the first bytes alone", x.parse(15), 0);
        Check.same("without those behind", x.size(9), 0);
        Check.noArgument("empty behind a success", () -> x.parse(1));
        Check.same("appended behind a success", append(x, "memory 3 3 9 7;     "), 20);
        Check.same("it is a text of its own", x.parse(20), 0);
        append(x, "memory 2 3 9 7;     ");
        append(x, "trading;            ");
        Check.same("an error in the first bytes", x.parse(14), 1);
        Check.noArgument("empty behind an error", () -> x.parse(1));
        Check.same("appended behind an error", append(x, "memory 4 3 9 7;     "), 20);
        Check.same("it is a text of its own, too", x.parse(20), 0);
        Check.same("its banks", x.size(0), 4);
    }

    /** "Throws IllegalArgumentException if length is out of range", and then changes nothing. */
    private static void parseRefused() {
        RefreshTrader x = Memory.of(HEAD);
        x.pass(3);
        x.saveSnapshot(0);
        Memory.parse(x, HEAD + "!");
        String before = Picture.of(x);
        append(x, "memory 4 3 9 7;     ");
        Check.noArgument("too long", () -> x.parse(21));
        Check.noArgument("negative", () -> x.parse(-1));
        Check.same("the memory", Picture.of(x), before);
        Check.same("the error position", x.errorPosition(), HEAD.length());
        Check.same("the buffer", append(x, BLANKS), 40);
        Check.same("a change can be undone", x.undo(), 0);
        Check.same("the snapshot", x.restoreSnapshot(0), 3);
        Check.same("the text in the buffer", x.parse(40), 0);
        Check.same("its banks", x.size(0), 4);
    }

    /** "Returns the position; NONE if that call succeeded or there was none." */
    private static void errorPositions() {
        RefreshTrader x = new RefreshTrader();
        Check.same("there was none", x.errorPosition(), -1);
        Check.noArgument("a parse that throws", () -> x.parse(1));
        Check.same("there still was none", x.errorPosition(), -1);
        Memory.parse(x, "!");
        Check.same("the first byte", x.errorPosition(), 0);
        Memory.parse(x, HEAD + " ".repeat(583) + "!");
        Check.same("the byte 599", x.errorPosition(), 599);
        Check.noArgument("a parse that throws then", () -> x.parse(-1));
        Check.same("the byte 599 still", x.errorPosition(), 599);
        Memory.parse(x, HEAD);
        Check.same("a success", x.errorPosition(), -1);
        Check.noArgument("a parse that throws behind it", () -> x.parse(601));
        Check.same("a success still", x.errorPosition(), -1);
        Memory.parse(x, " ".repeat(600));
        Check.same("the end of 600 bytes", x.errorPosition(), 600);
    }
}
