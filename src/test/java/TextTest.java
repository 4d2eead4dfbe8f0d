import java.nio.charset.StandardCharsets;

/** Promises 1 to 6: a new object, the input buffer, the text and its errors, counts and settings. */
public final class TextTest {
    public static void main(String[] args) {
        promise1();
        promise2();
        promise2OrderOfBytes();
        promise3Right();
        promise3Head();
        promise3Tokens();
        promise3Statements();
        promise3Weak();
        promise3Ask();
        promise3Settings();
        promise3Buffer();
        promise3ErrorLeavesMemory();
        promise3SuccessReplaces();
        promise3TextsAreApart();
        promise4();
        promise5();
        promise5LostRows();
        promise6();
        Check.end();
    }

    private static void promise1() {
        RefreshTrader x = new RefreshTrader();
        int[] sizes = {1, 1, 4, 1, 0, 0, 0, 0, 0, 0, 0};
        for (int what = 0; what < sizes.length; what++) {
            Check.same("new: size " + what, x.size(what), sizes[what]);
        }
        for (int what = 0; what < Texts.NOT_TOLD.length; what++) {
            Check.same("new: setting " + what, x.setting(what), Texts.NOT_TOLD[what]);
        }
        int[] row = {0, 4, 4, 0, 0, 0, 0, -1, -1};
        for (int what = 0; what < row.length; what++) {
            Check.same("new: row " + what, x.row(0, 0, what), row[what]);
        }
        Check.same("new: parse of nothing", x.parse(0), 1);
        Check.noArgument("new: the buffer is empty", () -> new RefreshTrader().parse(1));
        Check.same("new: error position", new RefreshTrader().errorPosition(), -1);
        Check.same("NONE", RefreshTrader.NONE, -1);
        RefreshTrader likewise = Memory.of("memory 1 1 4 1;");
        RefreshTrader fresh = new RefreshTrader();
        Check.same("new: losses as with the text", fresh.pass(50), likewise.pass(50));
        Check.same("new: refreshes as with the text", fresh.account(1), likewise.account(1));
        Check.same("new: refreshes", fresh.account(1), 49);
    }

    private static void promise2() {
        RefreshTrader x = new RefreshTrader();
        for (int length = 20; length <= 600; length += 20) {
            Check.same("append", x.append(0, 0, 0, 0, 0), length);
        }
        Check.same("append to a full buffer", x.append(0, 0, 0, 0, 0), -1);
        Check.same("append to a full buffer again", x.append(0, 0, 0, 0, 0), -1);
        Check.noArgument("a full buffer has no byte 601", () -> x.parse(601));
        Check.same("parse of a full buffer", x.parse(600), 1);
        Check.same("append behind a parse", x.append(0, 0, 0, 0, 0), 20);
    }

    private static void promise2OrderOfBytes() {
        RefreshTrader x = new RefreshTrader();
        // "memory 2 3 4 5;slots"
        x.append(0x6d656d6f, 0x72792032, 0x20332034, 0x20353b73, 0x6c6f7473);
        Check.same("the order of bytes", x.parse(15), 0);
        Check.same("the order of bytes: banks", x.size(0), 2);
        Check.same("the order of bytes: rows", x.size(1), 3);
        Check.same("the order of bytes: bound", x.size(2), 4);
        Check.same("the order of bytes: interval", x.size(3), 5);
        for (int at = 0; at < 20; at++) {
            int[] words = {0x20202020, 0x20202020, 0x20202020, 0x20202020, 0x20202020};
            words[at / 4] = 0x20202020 & ~(255 << 24 - at % 4 * 8) | 0xE1 << 24 - at % 4 * 8;
            x.append(words[0], words[1], words[2], words[3], words[4]);
            Check.same("a byte above 127 at " + at, x.parse(20), 1);
            Check.same("the place of a byte above 127", x.errorPosition(), at);
        }
    }

    private static void promise3Right() {
        Texts.right("memory 1 1 4 1;");
        Texts.right("memory 4 16 999 99;");
        Texts.right("memory 004 016 010 099;");
        Texts.right("  memory\n1\n\n1 4 1 ; \n");
        Texts.right("memory1 1 4 1;slots2;weak0 0 7 3;");
        Texts.right(Texts.HEAD + "trading;slots 4;most 8;ahead 8;hot 99;gain 20;patience 99;margin 20;");
        Texts.right(Texts.HEAD + "slots 1;most 1;ahead 0;hot 1;gain 1;patience 1;margin 0;");
        Texts.right(Texts.HEAD + "weak 1 2 999 999;weak 0 0 1 0;weak 1 1 9 9;weak 0 1 9 9;"
                + "ask 999 1 2;ask 0 0 0;ask 0 0 0;");
        Texts.right(Texts.HEAD + "ask 0 0 0;".repeat(20));
        Texts.right(Texts.HEAD + " ".repeat(584));
    }

    private static void promise3Head() {
        Texts.bad(1, "^");
        Texts.bad(1, "   ^");
        Texts.bad(1, "memory^");
        Texts.bad(1, "memory ^");
        Texts.bad(1, "^memor 1 1 4 1;");
        Texts.bad(1, "^memoryx 1 1 4 1;");
        Texts.bad(1, "^memoryz 1 1 4 1;");
        Texts.bad(1, "^nemory 1 1 4 1;");
        Texts.bad(1, "^trading;");
        Texts.bad(1, "^;");
        Texts.bad(1, "^1 1 4 1;");
        Texts.bad(1, "memory ^x 1 4 1;");
        Texts.bad(1, "memory ^; 1 4 1;");
        Texts.bad(1, "memory 1 ^;");
        Texts.bad(1, "memory 1 1 ^;");
        Texts.bad(1, "memory 1 1 4 ^;");
        Texts.bad(1, "memory 1 1 4 1^");
        Texts.bad(1, "memory 1 1 4 1 ^1;");
        Texts.bad(1, "memory 1 1 4 1 ^trading;");
        Texts.bad(3, "memory ^0 1 4 1;");
        Texts.bad(3, "memory ^5 1 4 1;");
        Texts.bad(3, "memory 1 ^0 4 1;");
        Texts.bad(3, "memory 1 ^17 4 1;");
        Texts.bad(3, "memory 1 1 ^3 1;");
        Texts.bad(3, "memory 1 1 ^0 1;");
        Texts.bad(3, "memory 1 1 4 ^0;");
        Texts.bad(3, "memory 1 1 4 ^100;");
        Texts.bad(3, "memory ^9 0 0 0");
        Texts.bad(3, "memory ^9 x ! slots slots");
    }

    private static void promise3Tokens() {
        Texts.bad(1, "memory ^0001 1 4 1;");
        Texts.bad(1, "memory 1 1 ^1000 1;");
        Texts.bad(1, "^Memory 1 1 4 1;");
        Texts.bad(1, "memory^\t1 1 4 1;");
        Texts.bad(1, "memory^\r\n1 1 4 1;");
        Texts.bad(1, "memory ^-1 1 4 1;");
        Texts.bad(1, "memory 1 1 4 1^:");
        Texts.bad(1, "memory 1 1 4 1^,");
        Texts.bad(1, "memory 1 1 4 1^\u00e9;");
        Texts.bad(1, Texts.HEAD + "slots 1^/;");
        Texts.bad(1, Texts.HEAD + "^`;");
        Texts.bad(1, Texts.HEAD + "^{;");
        Texts.bad(1, Texts.HEAD + "^\u0000;");
        Texts.bad(1, Texts.HEAD + "^\u0080;");
        Texts.bad(1, Texts.HEAD + "^patiencea 9;");
        Texts.bad(1, Texts.HEAD + "^abcdefgh;");
        Texts.bad(1, Texts.HEAD + "slots ^a1;");
        Texts.bad(1, Texts.HEAD + "slots 1^a;");
    }

    private static void promise3Statements() {
        Texts.bad(1, Texts.HEAD + "^;");
        Texts.bad(1, Texts.HEAD + "trading;^;");
        Texts.bad(1, Texts.HEAD + "^7;");
        Texts.bad(1, Texts.HEAD + "^memory 1 1 4 1;");
        Texts.bad(1, Texts.HEAD + "^slot 1;");
        Texts.bad(1, Texts.HEAD + "^slotss 1;");
        Texts.bad(1, Texts.HEAD + "^blots 1;");
        Texts.bad(1, Texts.HEAD + "^gains 1;");
        Texts.bad(1, Texts.HEAD + "trading^");
        Texts.bad(1, Texts.HEAD + "trading ^1;");
        Texts.bad(1, Texts.HEAD + "trading ^slots 1;");
        Texts.bad(2, Texts.HEAD + "trading;^trading;");
        Texts.bad(2, Texts.HEAD + "trading;slots 2;^trading 7");
    }

    private static void promise3Weak() {
        Texts.bad(1, Texts.HEAD + "weak^");
        Texts.bad(1, Texts.HEAD + "weak ^;");
        Texts.bad(1, Texts.HEAD + "weak 0 ^;");
        Texts.bad(1, Texts.HEAD + "weak 0 0 ^;");
        Texts.bad(1, Texts.HEAD + "weak 0 0 1 ^;");
        Texts.bad(1, Texts.HEAD + "weak 0 0 1 0 ^0;");
        Texts.bad(1, Texts.HEAD + "weak 0 0 1 0^");
        Texts.bad(3, Texts.HEAD + "weak ^2 0 1 0;");
        Texts.bad(3, Texts.HEAD + "weak 0 ^3 1 0;");
        Texts.bad(3, Texts.HEAD + "weak 0 0 ^0 0;");
        Texts.bad(1, Texts.HEAD + "weak 0 0 1 ^1000;");
        Texts.bad(2, Texts.HEAD + "weak 1 2 9 0;weak 1 ^2 9 0;");
        Texts.bad(2, Texts.HEAD + "weak 1 2 9 0;weak 0 2 9 0;weak 1 1 9 0;weak 1 ^2 0 x");
        Texts.bad(3, Texts.HEAD + "weak 1 2 9 0;weak ^2 2 9 0;");
    }

    private static void promise3Ask() {
        Texts.bad(1, Texts.HEAD + "ask^");
        Texts.bad(1, Texts.HEAD + "ask ^;");
        Texts.bad(1, Texts.HEAD + "ask 0 ^;");
        Texts.bad(1, Texts.HEAD + "ask 0 0 ^;");
        Texts.bad(1, Texts.HEAD + "ask 0 0 0^");
        Texts.bad(1, Texts.HEAD + "ask ^1000 0 0;");
        Texts.bad(3, Texts.HEAD + "ask 0 ^2 0;");
        Texts.bad(3, Texts.HEAD + "ask 2 0 ^3;");
        Texts.bad(3, "memory 4 16 10 1; ask 0 ^4 0;");
        Texts.bad(3, "memory 4 16 10 1; ask 0 3 ^16;");
        Texts.bad(4, Texts.HEAD + "ask 0 0 0;".repeat(20) + "^ask 0 0 0;");
        Texts.bad(4, Texts.HEAD + "ask 0 0 0;".repeat(20) + "trading; ^ask;");
        Texts.bad(3, Texts.HEAD + "ask 0 0 0;".repeat(19) + "ask 0 0 ^9; ask 0 0 0; ask 0 0 0;");
    }

    private static void promise3Settings() {
        for (int what = 0; what < Texts.SETTINGS.length; what++) {
            String word = Texts.SETTINGS[what];
            Texts.right(Texts.HEAD + word + " " + Texts.LEAST[what] + ";");
            Texts.right(Texts.HEAD + word + " " + Texts.GREATEST[what] + ";");
            Texts.bad(3, Texts.HEAD + word + " ^" + (Texts.GREATEST[what] + 1) + ";");
            if (Texts.LEAST[what] > 0) {
                Texts.bad(3, Texts.HEAD + word + " ^" + (Texts.LEAST[what] - 1) + ";");
            }
            Texts.bad(1, Texts.HEAD + word + "^");
            Texts.bad(1, Texts.HEAD + word + " ^;");
            Texts.bad(1, Texts.HEAD + word + " 1^");
            Texts.bad(1, Texts.HEAD + word + " 1 ^1;");
            Texts.bad(2, Texts.HEAD + word + " 1;^" + word + " 1;");
            Texts.bad(2, Texts.HEAD + word + " 1;trading;^" + word);
            RefreshTrader x = Memory.of(Texts.HEAD + word + " " + Texts.GREATEST[what] + ";");
            for (int other = 0; other < Texts.SETTINGS.length; other++) {
                Check.same("setting " + other + " behind " + word, x.setting(other),
                        other == what ? Texts.GREATEST[what] : Texts.NOT_TOLD[other]);
            }
        }
    }

    private static void promise3Buffer() {
        RefreshTrader x = new RefreshTrader();
        byte[] text = "memory 3 2 9 7;memory".getBytes(StandardCharsets.ISO_8859_1);
        Memory.fill(x, text);
        Check.noArgument("a negative length", () -> x.parse(-1));
        Check.noArgument("the least length", () -> x.parse(Integer.MIN_VALUE));
        Check.noArgument("a length behind the buffer", () -> x.parse(41));
        Check.noArgument("the greatest length", () -> x.parse(Integer.MAX_VALUE));
        Check.same("the first bytes alone are parsed", x.parse(15), 0);
        Check.same("banks of the first bytes", x.size(0), 3);
        Check.noArgument("the buffer is empty behind a success", () -> x.parse(1));
        Memory.fill(x, text);
        Check.same("a text with an error", x.parse(21), 1);
        Check.noArgument("the buffer is empty behind an error", () -> x.parse(1));
        Check.same("append behind an error", x.append(0, 0, 0, 0, 0), 20);
        Check.same("a text of no bytes", x.parse(0), 1);
        Check.same("the error position of no bytes", x.errorPosition(), 0);
        Check.same("the buffer is empty behind no bytes", x.append(0, 0, 0, 0, 0), 20);
    }

    private static void promise3ErrorLeavesMemory() {
        RefreshTrader x = Memory.of("memory 3 5 9 7; weak 1 1 5 0; ask 3 0 0; ask 4 0 0;");
        x.pass(4);
        x.set(3, 7);
        x.saveSnapshot(1);
        String before = Picture.of(x);
        Memory.parse(x, "memory 2 2 99 2; weak 1 1 3 0; weak 0 0 3 0; ask 0 1 1; trading; slots 3; x");
        Check.same("the memory behind an error", Picture.of(x), before);
        Check.same("undo behind an error", x.undo(), 1);
        Check.same("a snapshot behind an error", x.restoreSnapshot(1), 4);
        Check.same("the memory of the snapshot", Picture.of(x), before.replace("undo 2", "undo 0"));
    }

    private static void promise3SuccessReplaces() {
        RefreshTrader x = Memory.of("memory 3 5 9 7; weak 1 1 5 0; ask 3 0 0; ask 4 0 0; trading; slots 3;");
        x.pass(100);
        x.saveSnapshot(0);
        x.saveSnapshot(1);
        String text = "memory 2 4 8 6; weak 0 1 3 2; ask 5 1 0;";
        Check.same("a second text", Memory.parse(x, text), 0);
        Check.same("the memory of a second text", Picture.of(x), Picture.of(Memory.of(text)));
        Check.same("undo behind a second text", x.undo(), -1);
        Check.noState("slot 0 behind a second text", () -> x.restoreSnapshot(0));
        Check.noState("slot 1 behind a second text", () -> x.restoreSnapshot(1));
        Check.same("slot 0 is saved anew", x.saveSnapshot(0), false);
        x.pass(50);
        RefreshTrader y = Memory.of(text);
        y.pass(50);
        Check.same("the second memory goes on", Picture.of(x), Picture.of(y));
    }

    /** What was told in one text was not told in the next one, be it right or not. */
    private static void promise3TextsAreApart() {
        RefreshTrader x = new RefreshTrader();
        String asks = Texts.HEAD + "ask 0 0 0;".repeat(20);
        Check.same("20 requests", Memory.parse(x, asks), 0);
        Check.same("20 requests again", Memory.parse(x, asks), 0);
        Check.same("21 requests", Memory.parse(x, asks + "ask 0 0 0;"), 4);
        Check.same("20 requests then", Memory.parse(x, asks), 0);
        Check.same("requests", x.size(5), 20);
        String all = Texts.HEAD + "slots 2;most 2;ahead 2;hot 2;gain 2;patience 2;margin 3;trading;weak 1 1 5 0;";
        Check.same("all settings", Memory.parse(x, all), 0);
        Check.same("all settings again", Memory.parse(x, all), 0);
        Check.same("all settings, and an error", Memory.parse(x, all + ";"), 1);
        Check.same("all settings then", Memory.parse(x, all), 0);
        Check.same("a text without any", Memory.parse(x, Texts.HEAD), 0);
        Check.same("it is as on a new object", Picture.of(x), Picture.of(Memory.of(Texts.HEAD)));
        x.ask(0, 0);
        x.ask(0, 1);
        Check.same("a text with a request", Memory.parse(x, Texts.HEAD + "ask 7 1 1;"), 0);
        x.ask(1, 0);
        x.pass(1);
        Check.same("the request is to come", x.request(0, 3), 0);
    }

    private static void promise4() {
        RefreshTrader x = new RefreshTrader();
        Memory.parse(x, "memory 1 1 4 1; x;");
        Check.same("error position", x.errorPosition(), 16);
        Check.noArgument("a length out of range", () -> x.parse(1));
        Check.same("error position behind an exception", x.errorPosition(), 16);
        Memory.parse(x, "memory 1 1 4");
        Check.same("error position of a short text", x.errorPosition(), 12);
        Memory.parse(x, "memory 1 1 4 1;");
        Check.same("error position behind a success", x.errorPosition(), -1);
        Memory.parse(x, "y");
        Check.same("error position at the start", x.errorPosition(), 0);
        x.pass(1);
        x.undo();
        Check.same("error position behind an undo", x.errorPosition(), 0);
    }

    private static void promise5() {
        RefreshTrader x = Memory.of("memory 3 2 4 9; margin 0; hot 2; gain 2; trading;"
                + "ask 0 1 0; ask 0 1 1; ask 0 1 0; ask 900 2 1;");
        int[] first = {3, 2, 4, 9, 0, 4, 0, 0, 0, 1, 0};
        for (int what = 0; what < first.length; what++) {
            Check.same("size " + what + " at first", x.size(what), first[what]);
        }
        // Request 0 is served, 1 and 2 wait, 3 is to come; bank 1 has a heat of 2.
        x.pass(1);
        int[] second = {3, 2, 4, 9, 1, 4, 2, 0, 1, 1, 1};
        for (int what = 0; what < second.length; what++) {
            Check.same("size " + what + " behind a tick", x.size(what), second[what]);
        }
        x.setTrading(false);
        x.ask(0, 0);
        Check.same("requests behind ask", x.size(5), 5);
        Check.same("requests that wait behind ask", x.size(6), 3);
        Check.same("trading behind setTrading", x.size(9), 0);
        Check.same("changes that can be undone", x.size(10), 3);
        Check.noArgument("size -1", () -> x.size(-1));
        Check.noArgument("size 11", () -> x.size(11));
        x.pass(5);
        x.ask(1, 0);
        Check.same("none but the new one waits", x.size(6), 1);
        RefreshTrader one = Memory.of("memory 1 1 99 99;");
        one.ask(0, 0);
        Check.same("the first request waits", one.size(6), 1);
    }

    private static void promise5LostRows() {
        RefreshTrader x = Memory.of("memory 4 16 4 99; margin 0;");
        // Of 64 rows one is refreshed in the tick with the time 4, in which the others are lost.
        x.pass(5);
        Check.same("rows that are lost", x.size(7), 63);
        x.pass(1);
        Check.same("a touched row is not lost", x.size(7), 62);
        RefreshTrader first = Memory.of("memory 1 2 4 99; margin 0; weak 0 1 3 4;");
        // At the time 4 remain 0 of row 0 and -1 of row 1, so that row 0 is lost.
        first.pass(5);
        Check.same("the first row is lost", first.size(7), 1);
        Check.same("it is the first row", first.row(0, 0, 3), 1);
    }

    private static void promise6() {
        RefreshTrader x = Memory.of(Texts.HEAD + "margin 3; patience 7; gain 5; hot 50; ahead 6; most 2; slots 4;");
        int[] settings = {4, 2, 6, 50, 5, 7, 3};
        for (int what = 0; what < settings.length; what++) {
            Check.same("setting " + what, x.setting(what), settings[what]);
        }
        Check.noArgument("setting -1", () -> x.setting(-1));
        Check.noArgument("setting 7", () -> x.setting(7));
    }
}
