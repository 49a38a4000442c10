/** The TAPE, texts of THE BOARD and fault(): promises 2 to 5, and what is told of texts under "Terms". */
public final class TextsTest extends Calls {
    private static final int BLANKS = 0x20202020;
    /** Of each word a text that is right on a BOARD of one flat SQUARE. */
    private static final String[] RIGHT = {
        "group 1 8", "size 2 3", "shape 2", "weight 1 9", "hole 0 0", "east 0 1 1", "north 1 0 1",
    };

    public static void main(String[] args) {
        tapeFills();
        bytesOfNumbers();
        end();
        tapeIsUsedUp();
        everySign();
        noLine();
        twelveTexts();
        twelveLines();
        numbers();
        latterNumbers();
        digits();
        turnsByThen();
        words();
        letters();
        blanks();
        otherSigns();
        moreMustCome();
        tooMuch();
        nothingStays();
        faultOfTheLatest();
        longestText();
        finish("TextsTest");
    }

    private static int feedBlanks(TurnBoard x) {
        return x.feed(BLANKS, BLANKS, BLANKS, BLANKS, BLANKS);
    }

    private static void tapeFills() {
        about("how many it has; NONE, and none come, if it would have more than 400");
        TurnBoard x = new TurnBoard();
        for (int i = 1; i <= 20; i++) {
            int size = 20 * i;
            is(size, () -> feedBlanks(x));
        }
        is(-1, () -> x.feed(1, 2, 3, 4, 5));
        is(-1, () -> x.feed(1, 2, 3, 4, 5));
        is(false, () -> x.end(401));
        is(true, () -> x.end(400));
        is(-1, () -> feedBlanks(x));
        is(1, x::board);
        for (int left = 379; left <= 399; left++) {
            TurnBoard y = new TurnBoard();
            for (int i = 0; i < 20; i++) {
                feedBlanks(y);
            }
            int size = left;
            is(true, () -> y.end(size));
            is(size <= 380 ? size + 20 : -1, () -> feedBlanks(y));
            is(size <= 380, () -> y.end(size + 20));
            is(false, () -> y.end(size + 21));
            is(1, y::board);
        }
    }

    private static void bytesOfNumbers() {
        about("Twenty bytes come behind the TAPE, of each number the highest first");
        TurnBoard x = new TurnBoard();
        is(20, () -> x.feed(0x73697a65, 0x20332032, 0x3b736861, 0x70652031, 0x3b686f6c));
        is(40, () -> x.feed(0x65203220, 0x31202020, BLANKS, BLANKS, BLANKS));
        is(1, x::board);
        is(3, () -> x.count(4));
        is(2, () -> x.count(5));
        is(1, () -> x.count(6));
        is(1, () -> x.count(9));
        for (int place = 0; place < 20; place++) {
            int[] n = {BLANKS, BLANKS, BLANKS, BLANKS, BLANKS};
            n[place / 4] ^= 0xdf << (24 - 8 * (place % 4));
            TurnBoard y = new TurnBoard();
            is(20, () -> y.feed(n[0], n[1], n[2], n[3], n[4]));
            is(ARGUMENT, y::board);
            is(place, y::fault);
        }
    }

    private static void end() {
        about("The TAPE has its first n bytes alone: true; false, and nothing happens, if it has fewer, or n is below 0");
        TurnBoard x = new TurnBoard();
        is(true, () -> x.end(0));
        is(false, () -> x.end(1));
        is(20, () -> x.feed(0x73697a65, 0x20322033, 0x78000000, 0, 0));
        is(false, () -> x.end(21));
        is(false, () -> x.end(-1));
        is(false, () -> x.end(Integer.MIN_VALUE));
        is(false, () -> x.end(Integer.MAX_VALUE));
        is(true, () -> x.end(20));
        is(true, () -> x.end(9));
        is(false, () -> x.end(10));
        is(true, () -> x.end(8));
        is(28, () -> feedBlanks(x));
        is(1, x::board);
        is(2, () -> x.count(4));
        is(3, () -> x.count(5));
        is(20, () -> feedBlanks(x));
        is(true, () -> x.end(0));
        is(20, () -> x.feed(0x73697a65, 0x20332031, 0x20202020, BLANKS, BLANKS));
        is(2, x::board);
        is(3, () -> x.count(4));
    }

    private static void tapeIsUsedUp() {
        about("Uses the TAPE up");
        TurnBoard x = new TurnBoard();
        is(1, () -> board(x, "shape 1"));
        is(false, () -> x.end(1));
        is(2, x::board);
        is(1, () -> x.count(6));
        wrongText(x, "shape 7", 6);
        is(false, () -> x.end(1));
        is(3, x::board);
        is(-1, x::fault);
        is(0, () -> walk(x, "from 0 0", 0));
        is(false, () -> x.end(1));
        wrongWalk(x, "from 0 9", 7);
        is(false, () -> x.end(1));
        is(ELEMENT, () -> walk(x, "from 0 0", 3));
        is(false, () -> x.end(1));
        is(STATE, () -> mean(x, "from 0 0", 0));
        is(false, () -> x.end(1));
        is(ARGUMENT, () -> mean(x, "from", 0));
        is(false, () -> x.end(1));
        is(INDEX, () -> mean(x, "from 0 0", 2));
        is(false, () -> x.end(1));
        is(20, () -> feedBlanks(x));
    }

    private static void everySign() {
        about("blanks (32); a to z; all other bytes, 0 to 255, stand nowhere by themselves");
        for (int sign = 0; sign <= 255; sign++) {
            TurnBoard x = new TurnBoard();
            if (sign == 32) {
                is(1, () -> board(x, "shape 2 "));
            } else if (sign >= '0' && sign <= '9') {
                wrongText(x, "shape 2" + (char) sign, 6);
            } else if (sign == ';') {
                wrongText(x, "shape 2" + (char) sign, 8);
            } else {
                wrongText(x, "shape 2" + (char) sign, 7);
            }
            newWrong((char) sign + "9", sign == 32 ? 1 : 0);
            if (sign != 32) {
                newWrong("shape" + (char) sign + " 2", sign >= '3' && sign <= '9' || sign < '0' || sign > '9' && (sign < 'a' || sign > 'z') ? 5
                        : sign >= 'a' && sign <= 'z' ? 0 : 7);
            }
        }
    }

    private static void noLine() {
        about("A text that is empty, or blanks alone, has no LINE");
        TurnBoard x = told("size 2 2;weight 1 3;hole 0 0;east 0 0 1");
        String before = look(x);
        is(2, x::board);
        is(-1, x::fault);
        is(3, () -> board(x, " "));
        is(4, () -> board(x, " ".repeat(399)));
        is(5, () -> board(x, " ".repeat(400)));
        is(-1, x::fault);
        is(before.substring(1), () -> look(x).substring(1));
    }

    private static void twelveTexts() {
        about("told in texts (at most 12, one behind another); UnsupportedOperationException: there are 12");
        TurnBoard x = new TurnBoard();
        x.image();
        for (int i = 1; i <= 12; i++) {
            int texts = i;
            is(texts, () -> board(x, texts == 12 ? "shape 1;east 0 0 1" : ""));
            is(texts, () -> x.count(0));
        }
        x.set(0, 0, true, 1);
        x.frame(0, 0, 1);
        x.undo();
        String before = look(x);
        is(UNSUPPORTED, () -> board(x, "shape 2"));
        is(-1, x::fault);
        is(false, () -> x.end(1));
        is(UNSUPPORTED, () -> board(x, ""));
        is(UNSUPPORTED, () -> board(x, "group 0 3;weight 1 4;hole 0 0"));
        is(ARGUMENT, () -> board(x, "shape 1;;"));
        is(8, x::fault);
        is(UNSUPPORTED, x::board);
        is(-1, x::fault);
        is(before, () -> look(x));
        is(true, x::redo);
        is(true, x::back);
        is(0, () -> x.count(0));
        is(1, () -> board(x, "shape 2"));
    }

    private static void twelveLines() {
        about("LINE { ; LINE }, at most 12; of a 13th LINE its first word");
        String eleven = "shape 0;".repeat(11);
        newRight(eleven + "shape 1");
        newRight(eleven + "shape 1 ");
        is(1, () -> told(eleven + "shape 1").count(6));
        newWrong(eleven + "shape 3", 94);
        newWrong(eleven, 88);
        newWrong(eleven + "  ", 90);
        newWrong(eleven + "shape 1;shape 1", 96);
        newWrong(eleven + "shape 1;   shape 1", 99);
        newWrong(eleven + "shape 1 ; nowhere", 98);
        newWrong(eleven + "shape 1;", 96);
        newWrong(eleven + "shape 1;  ", 98);
        newWrong(eleven + "shape 1;;", 96);
        newWrong(eleven + "shape 1;3", 96);
        newWrong(eleven + "shape 1 shape 1", 96);
        newWrong(eleven + "shape 1;shape 9", 96);
        is(0, () -> {
            TurnBoard x = new TurnBoard();
            wrongText(x, eleven + "shape 1;shape 1", 96);
            return x.count(6);
        });
    }

    private static void numbers() {
        about("KIND 0 to 3, ORDER 2 to 8, X and Y 0 to 3, N 0 to 9: a number out of its bounds");
        newWrong("group 4 8", 6);
        newWrong("group 9", 6);
        newWrong("group 0 1", 8);
        newWrong("group 0 0", 8);
        newWrong("group 0 9", 8);
        newWrong("group 2 9", 8);
        newRight("group 0 2");
        newRight("group 0 8");
        newRight("group 3 2");
        newWrong("size 0 1", 5);
        newWrong("size 1 0", 7);
        newWrong("size 4 4", 5);
        newWrong("size 3 4", 7);
        newWrong("size 10 1", 5);
        newWrong("shape 3", 6);
        newWrong("shape 12", 6);
        newWrong("weight 2 0", 7);
        newRight("weight 1 0");
        newRight("weight 1 9");
        newWrong("weight 1 10", 9);
        newWrong("weight 1 999", 9);
        newWrong("size 3 3;hole 4 0", 14);
        newWrong("size 3 3;hole 0 4", 16);
        newWrong("size 3 3;east 4 0 1", 14);
        newWrong("size 3 3;east 0 4 1", 16);
        newWrong("size 3 3;east 0 0 2", 18);
        newWrong("size 3 3;north 4 0 1", 15);
        newWrong("size 3 3;north 0 4 1", 17);
        newWrong("size 3 3;north 0 0 2", 19);
        newRight("size 3 3;hole 2 2;east 2 3 1;north 3 2 1");
        newRight("size 3 3;shape 2;hole 2 2;east 3 3 1;north 3 3 1");
    }

    private static void latterNumbers() {
        about("a number by which there is no such GROUP, SQUARE, LINE: then the latter number");
        newWrong("group 1 2", 8);
        newWrong("group 1 3", 8);
        newWrong("group 1 5", 8);
        newWrong("group 1 7", 8);
        newWrong("group 2 4", 8);
        newWrong("group 2  6", 9);
        newWrong("group 3 3", 8);
        newWrong("group 3 006", 8);
        newWrong("hole 1 0", 7);
        newWrong("hole 0 1", 7);
        newWrong("hole 3  0", 8);
        newWrong("hole 1", 6);
        newWrong("hole 1 x", 7);
        newWrong("east 1 0 1", 7);
        newWrong("east 1 0", 7);
        newWrong("east 1 0 7", 7);
        newWrong("east 2   1 0", 9);
        newWrong("east 3", 6);
        newWrong("east 0 2 1", 7);
        newWrong("north 0 1 1", 8);
        newWrong("north 2 0 1", 8);
        newWrong("north 2 4 1", 8);
        newWrong("north 3 ;", 8);
        newWrong("shape 1;north 0 1 0", 16);
        newWrong("shape 1;hole 1 0", 15);
        newWrong("shape 2;hole 0 1", 15);
        newWrong("shape 2;east 2 1 0", 15);
        newWrong("shape 2;east 1 2 0", 15);
        newRight("shape 1;east 1 1 0;north 1 0 0");
        newRight("shape 2;east 1 1 0;north 1 1 0");
    }

    private static void digits() {
        about("All numbers are of 1 to 3 digits: a number of more digits");
        newRight("group 000 002");
        newRight("size 003 001;shape 002;weight 001 009;hole 002 000;east 003 001 001;north 00 1 01");
        newWrong("group 0000 2", 6);
        newWrong("group 0 0002", 8);
        newWrong("size 0001 1", 5);
        newWrong("size 1 0001", 7);
        newWrong("shape 0000", 6);
        newWrong("weight 0000 1", 7);
        newWrong("weight 0 0001", 9);
        newWrong("hole 0000 0", 5);
        newWrong("hole 0 0000", 7);
        newWrong("east 0000 0 1", 5);
        newWrong("east 0 0000 1", 7);
        newWrong("east 0 0 0001", 9);
        newWrong("north 0 0 4294967297", 10);
        newWrong("shape 4294967296", 6);
        newWrong("shape 18446744073709551617", 6);
        newWrong("shape " + "0".repeat(394), 6);
        newRight("shape1;shape02;shape000");
    }

    private static void turnsByThen() {
        about("T: a TURN that is there by then");
        newRight("group 0 8;east 0 0 7;weight 7 1");
        newWrong("east 0 0 2;group 0 8", 9);
        newWrong("weight 7 1;group 0 8", 7);
        newWrong("group 0 8;group 0 3;east 0 0 3", 29);
        newWrong("group 0 8;group 0 3;weight 3 3", 27);
        newRight("group 0 8;group 0 3;weight 2 3");
        TurnBoard x = told("group 1 8");
        is(2, () -> board(x, "east 0 0 7"));
        is(7, () -> x.line(0, 0, false));
        about("SQUARE and LINE that are there by then");
        newWrong("hole 1 1;size 2 2", 7);
        newRight("size 2 2;hole 1 1;size 1 1");
        newWrong("size 2 2;size 1 1;hole 1 1", 25);
        newWrong("east 1 0 1;shape 1", 7);
        newWrong("shape 1;shape 0;east 1 0 1", 23);
    }

    private static void words() {
        about("Words are as long as a to z go on; a word that is none");
        String[] none = {
            "x", "a", "z", "groups 0 2", "grou 0 2", "sizes 1 1", "siz 1 1", "shapes 1", "shap 1", "weights 1 1", "weigh 1 1",
            "holes 0 0", "hol 0 0", "eastx 0 0 1", "eas 0 0 1", "norths 0 0 1", "nort 0 0 1", "west 0 0 1", "south 0 0 1",
            "from 0 0", "eastnorth 0 0 1", "Group 0 2", "gROUP 0 2", "GROUP 0 2", "g roup 0 2", "1", "0 0", "-", "{", "`", "shape`1",
        };
        for (String text : none) {
            int fault = text.equals("shape`1") ? 5 : 0;
            newWrong(text, fault);
            newWrong("shape 1; " + text, fault + 9);
        }
        newWrong("sHape 1", 0);
        newWrong("shapE 1", 0);
        newRight("group0 2");
        newRight("size2 2");
        newRight("shape1");
        newRight("weight1 1");
        newRight("hole0 0");
        newRight("east0 0 1");
        newRight("north0 0 1");
        newWrong("size 2 2shape 1", 8);
        newWrong("size 2 2 shape 1", 9);
    }

    private static void letters() {
        about("a word that is none: by one letter");
        for (String text : RIGHT) {
            int length = text.indexOf(' ');
            for (int i = 0; i < length; i++) {
                newWrong(text.substring(0, i) + "q" + text.substring(i + 1), 0);
                newWrong(text.substring(0, i) + text.substring(i + 1), 0);
                newWrong(text.substring(0, i) + text.charAt(i) + text.substring(i), 0);
                newWrong(text.substring(0, i) + (char) (text.charAt(i) - 32) + text.substring(i + 1), 0);
                if (i > 0) {
                    newWrong(text.substring(0, i) + " " + text.substring(i), 0);
                }
            }
        }
    }

    private static void blanks() {
        about("between all there may be blanks (32), also ahead and behind");
        TurnBoard x = new TurnBoard();
        is(1, () -> board(x, "   group   1   6   ;   size   3   2   ;   shape   1   ;   weight   5   7   ;   hole   2   1   "));
        is(2, () -> board(x, "  east  3  2  4  ;  north  3  1  5  "));
        is(6, () -> x.count(2));
        is(3, () -> x.count(4));
        is(1, () -> x.count(6));
        is(7, () -> x.turn(3, 6));
        is(1, () -> x.count(9));
        is(4, () -> x.line(0, 2, false));
        is(5, () -> x.line(0, 1, true));
        TurnBoard y = new TurnBoard();
        is(1, () -> board(y, "group1 6;size3 2;shape1;weight5 7;hole2 1;east3 2 4;north3 1 5"));
        is(4, () -> y.line(0, 2, false));
        is(5, () -> y.line(0, 1, true));
        newWrong("size 22", 5);
        newWrong("size 2 ", 7);
        newWrong("   ;", 3);
        newWrong("  x", 2);
        newWrong("shape  1 ;  ; shape 1", 12);
        newWrong("sh ape 1", 0);
        newRight("east000 1 1;shape 1");
    }

    private static void otherSigns() {
        about("the begin of the first thing that cannot stand there");
        newWrong("size -1 1", 5);
        newWrong("size +1 1", 5);
        newWrong("size 1,1", 6);
        newWrong("size 1.0 1", 6);
        newWrong("size x 1", 5);
        newWrong("size ; 1", 5);
        newWrong("size 1 ;", 7);
        newWrong("size size 1", 5);
        newWrong("group\t0 2", 5);
        newWrong("group 0\n2", 7);
        newWrong("group 0 2\r", 9);
        newWrong("group 0 2\0", 9);
        newWrong("\0", 0);
        newWrong("group\u00a00 2", 5);
        newWrong("shape \u00b2", 6);
        newWrong("shape 1:shape 2", 7);
        newWrong("shape 1;;shape 2", 8);
        newWrong(";shape 1", 0);
        newWrong("shape 1;1 shape", 8);
        newWrong("weight 1 x", 9);
        newWrong("east 0 0 ;", 9);
        newWrong("shape 1 2", 8);
        newWrong("shape 1;shape 2 x", 16);
    }

    private static void moreMustCome() {
        about("or the text's length, if more must come");
        for (String text : RIGHT) {
            newRight(text);
            newRight("shape 0; " + text);
            newWrong(text + ";", text.length() + 1);
            newWrong(text + " ;  ", text.length() + 4);
            for (int at = text.indexOf(' '); at >= 0; at = text.indexOf(' ', at + 1)) {
                newWrong(text.substring(0, at), at);
                newWrong(text.substring(0, at) + "   ", at + 3);
                newWrong("shape 0 ; " + text.substring(0, at), at + 10);
                newWrong(text.substring(0, at) + ";", at);
                newWrong(text.substring(0, at) + " ?", at + 1);
                newWrong(text.substring(0, at) + " x", at + 1);
            }
        }
    }

    private static void tooMuch() {
        about("one number more than a LINE has");
        for (String text : RIGHT) {
            newWrong(text + " 1", text.length() + 1);
            newWrong(text + " x", text.length() + 1);
            newWrong(text + " shape", text.length() + 1);
            newWrong(text + "x", text.length());
            newWrong(text + ".", text.length());
        }
    }

    private static void nothingStays() {
        about("Of a wrong text nothing stays");
        String[] right = {"group 1 8", "group 0 3", "size 1 1", "shape 1", "weight 3 9", "hole 0 0", "east 0 0 5", "north 1 1 5"};
        for (String text : right) {
            TurnBoard x = told("group 1 6;size 2 2;weight 3 4;hole 1 1;east 1 0 2");
            x.set(0, 1, true, 4);
            x.frame(1, 1, 3);
            x.undo();
            x.image();
            String before = look(x);
            wrongText(x, text + ";x", text.length() + 1);
            wrongText(x, text + ";", text.length() + 1);
            wrongText(x, text + " 9", text.length() + 1);
            is(before, () -> look(x));
            is(true, x::alike);
            is(true, x::redo);
            is(true, x::undo);
            is(true, x::undo);
            is(false, x::undo);
            is(2, () -> board(x, text));
        }
    }

    private static void faultOfTheLatest() {
        about("The first wrong byte of the latest text that was read; NONE without one, and ahead of any");
        TurnBoard x = new TurnBoard();
        is(-1, x::fault);
        is(20, () -> feedBlanks(x));
        is(-1, x::fault);
        wrongText(x, "shape 4", 6);
        x.set(0, 0, false, 1);
        x.undo();
        x.draw(1);
        x.image();
        x.back();
        is(false, () -> x.end(-1));
        is(6, x::fault);
        is(1, () -> board(x, "shape 0"));
        is(-1, x::fault);
        wrongWalk(x, "from 0 0 1", 9);
        is(0, () -> walk(x, "from 0 0", 0));
        is(-1, x::fault);
        is(ARGUMENT, () -> mean(x, "from 2", 0));
        is(5, x::fault);
        is(STATE, () -> mean(x, "from 1 1", 0));
        is(-1, x::fault);
        is(INDEX, () -> mean(x, "fro", 2));
        is(0, x::fault);
        is(INDEX, () -> mean(x, "from 0 0", 2));
        is(-1, x::fault);
        is(ARGUMENT, () -> walk(x, "from 0 0;", 7));
        is(9, x::fault);
        is(ELEMENT, () -> walk(x, "from 0 0", 7));
        is(-1, x::fault);
        is(ARGUMENT, () -> walk(x, "", 0));
        is(0, x::fault);
        is(2, x::board);
        is(-1, x::fault);
    }

    private static void longestText() {
        about("a TAPE of 400 bytes that is full");
        String text = "size 3 2;" + " ".repeat(375) + "shape 2;hole 2 1";
        TurnBoard x = new TurnBoard();
        is(400, () -> text.length());
        is(1, () -> board(x, text));
        is(2, () -> x.count(6));
        is(1, () -> x.count(9));
        newWrong(text.substring(0, 399) + "2", 399);
        newWrong(text.substring(0, 399) + " ", 400);
        newWrong(" ".repeat(399) + "x", 399);
    }
}
