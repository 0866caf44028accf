/** The term "TEXTS", sentence by sentence. */
final class TextTerms {
    private static final int FULL = StoryWall.FULL;

    /** Fifty-nine characters: eight cards, one of them longer by four digits. */
    private static final String FIFTY_NINE = "A0,1,0;A0,1,0;A0,1,0;A0,1,0;A0,1,0;A0,1,0;A0,1,0;F9999,11,0";

    private TextTerms() {
    }

    static void all() {
        atMost60Characters();
        oneOrMoreCards();
        threads();
        hours();
        words();
        tensions();
        flashbacks();
        zeros();
        tooGreat();
        faultIsAnIndex();
        endsTooEarly();
    }

    private static void texts(String sentence) {
        Due.sentence("TEXTS", sentence);
    }

    private static void fault(String text, int fault) {
        StoryWall wall = Walls.typed(text);
        Due.is("addAll() of \"" + text + "\"", wall.addAll(), -100 - fault);
        Due.is("cards of \"" + text + "\"", wall.count(0), 0);
    }

    /** Asks for the numbers of the last card of a text. */
    private static void last(String text, int... numbers) {
        StoryWall wall = Walls.typed(text);
        int cards = text.split(";").length;
        Due.is("addAll() of \"" + text + "\"", wall.addAll(), cards);
        for (int what = 0; what < numbers.length; what++) {
            Due.is("card(.., " + what + ") of \"" + text + "\"", wall.card(cards - 1, what), numbers[what]);
        }
    }

    private static void atMost60Characters() {
        texts("There is a text of at most 60 characters, empty at first.");
        StoryWall wall = new StoryWall();
        Due.is("count(14) at first", wall.count(14), 0);
        Due.is("addAll() at first", wall.addAll(), -100);
        Walls.write(wall, FIFTY_NINE);
        Due.is("count(14) of 59", wall.count(14), 59);
        Due.is("the 60th", wall.type('*'), 60);
        Due.is("a 61st", wall.type('*'), FULL);
        Due.is("addAll() of 60", wall.addAll(), 8);
        Due.is("the 60th is read", wall.card(7, 4), 1);
        fault(FIFTY_NINE + ";", 60);
        last(FIFTY_NINE, 5, 9999, 11, 0, 0);
    }

    private static void oneOrMoreCards() {
        texts("A text of cards is one or more cards with \";\" between two:");
        fault("", 0);
        last("A1,2,3", 0, 1, 2, 3, 0);
        last("A1,2,3;B4,5,6", 1, 4, 5, 6, 0);
        last("A0,1,0;A0,1,0;A0,1,0;A0,1,0;A0,1,0;A0,1,0;A0,1,0;B4,5,6*", 1, 4, 5, 6, 1);
        fault(";", 0);
        fault(";A1,2,3", 0);
        fault("A1,2,3;", 7);
        fault("A1,2,3;;B4,5,6", 7);
        fault("A1,2,3B4,5,6", 6);
        fault("A1,2,3,B4,5,6", 6);
        fault("A1,2,3 ;B4,5,6", 6);
        fault("A1,2,3; B4,5,6", 7);
        fault("A1,2,3:B4,5,6", 6);
    }

    private static void threads() {
        texts("a thread (\"A\" to \"F\" for 0 to 5)");
        for (int thread = 0; thread < 6; thread++) {
            last((char) ('A' + thread) + "1,2,3", thread);
        }
        fault("@1,2,3", 0);
        fault("G1,2,3", 0);
        fault("a1,2,3", 0);
        fault("01,2,3", 0);
        fault((char) ('A' + 256) + "1,2,3", 0);
        fault("\u0000", 0);
        fault("\uffff", 0);
        fault("A1,2,3;G1,2,3", 7);
        fault("AA1,2,3", 1);
    }

    private static void hours() {
        texts("an hour (0 to 9999)");
        last("A0,2,3", 0, 0);
        last("A9,2,3", 0, 9);
        last("A10,2,3", 0, 10);
        last("A9999,2,3", 0, 9999);
        fault("A10000,2,3", 5);
        fault("A99990,2,3", 5);
        fault("A-1,2,3", 1);
        fault("A,2,3", 1);
        fault("A/,2,3", 1);
        fault("A:,2,3", 1);
        fault("A1/,2,3", 2);
        fault("A1:,2,3", 2);
        fault("A1.,2,3", 2);
        fault("A1-,2,3", 2);
        fault("A1;2;3", 2);
        fault("A" + (char) ('1' + 256) + ",2,3", 1);
        fault("A1" + (char) ('1' + 256) + ",2,3", 2);
    }

    private static void words() {
        texts("\",\" and words (1 to 999)");
        last("A1,1,3", 0, 1, 1);
        last("A1,9,3", 0, 1, 9);
        last("A1,10,3", 0, 1, 10);
        last("A1,999,3", 0, 1, 999);
        fault("A1,0,3", 3);
        fault("A1,1000,3", 6);
        fault("A1,9990,3", 6);
        fault("A1,-1,3", 3);
        fault("A1,,3", 3);
        fault("A1,2;3", 4);
        fault("A1,2:3", 4);
        fault("A1,2/3", 4);
    }

    private static void tensions() {
        texts("\",\" and a tension (0 to 100)");
        last("A1,2,0", 0, 1, 2, 0, 0);
        last("A1,2,9", 0, 1, 2, 9, 0);
        last("A1,2,10", 0, 1, 2, 10, 0);
        last("A1,2,99", 0, 1, 2, 99, 0);
        last("A1,2,100", 0, 1, 2, 100, 0);
        fault("A1,2,101", 7);
        fault("A1,2,110", 7);
        fault("A1,2,990", 7);
        fault("A1,2,1000", 8);
        fault("A1,2,-1", 5);
        fault("A1,2,*", 5);
        fault("A1,2,;", 5);
    }

    private static void flashbacks() {
        texts("and perhaps \"*\" (it is a flashback).");
        last("A1,2,3", 0, 1, 2, 3, 0);
        last("A1,2,3*", 0, 1, 2, 3, 1);
        last("A1,2,100*", 0, 1, 2, 100, 1);
        last("A1,2,3*;A1,2,3", 0, 1, 2, 3, 0);
        last("A1,2,3;A1,2,3*", 0, 1, 2, 3, 1);
        fault("A1,2,3**", 7);
        fault("A1,2,3*4", 7);
        fault("*A1,2,3", 0);
        fault("A*1,2,3", 1);
        fault("A1*,2,3", 2);
        fault("A1,2,3)", 6);
        fault("A1,2,3+", 6);
    }

    private static void zeros() {
        texts("Numbers have no zero in front, unless it is the single digit 0");
        last("A0,1,0", 0, 0, 1, 0, 0);
        last("A0,1,0*", 0, 0, 1, 0, 1);
        fault("A00,1,0", 2);
        fault("A01,1,0", 2);
        fault("A09999,1,0", 2);
        fault("A0,01,0", 3);
        fault("A0,00,0", 3);
        fault("A0,1,00", 6);
        fault("A0,1,01", 6);
        fault("A0,1,0100", 6);
        last("A1000,100,100", 0, 1000, 100, 100, 0);
    }

    private static void tooGreat() {
        texts("a digit by which a number would be greater than told is not allowed.");
        last("A999,99,10", 0, 999, 99, 10);
        fault("A9999" + "9", 5);
        fault("A1000" + "0", 5);
        fault("A1,999" + "9", 6);
        fault("A1,100" + "0", 6);
        fault("A1,1,100" + "0", 8);
        fault("A1,1,10" + "1", 7);
        fault("A1,1,11" + "0", 7);
        fault("A1,1,99" + "9", 7);
        fault("A99999999999999999999,1,1", 5);
        fault("A4294967297,1,1", 5);
    }

    private static void faultIsAnIndex() {
        texts("The fault of the text is the index, from 0, of the first character that is not allowed at its place");
        fault("?", 0);
        fault("?A1,2,3", 0);
        fault("A?,0,999", 1);
        fault("A1?0,999", 2);
        fault("A1,?,999", 3);
        fault("A1,2?999", 4);
        fault("A1,2,?", 5);
        fault("A1,2,3?", 6);
        fault("A1,2,3*?", 7);
        fault("A1,2,3*;?", 8);
        String many = FIFTY_NINE.substring(0, 49);
        for (int index = 0; index < many.length(); index++) {
            fault(many.substring(0, index) + '?' + many.substring(index + 1) + "?", index);
        }
        fault(FIFTY_NINE + "?", 59);
    }

    private static void endsTooEarly() {
        texts("or the length of the text if it ends too early (the empty text does).");
        String[] early = {"", "A", "A1", "A1,", "A1,2", "A1,2,", "A1,2,3;", "A1,2,3*;", "A1,2,3;B", "A9999", "A0",
            "A1,999", "A0,1", "F9999,999,100*;F9999,999,100*;F9999,999,"};
        for (String text : early) {
            fault(text, text.length());
        }
    }
}
