/** The tokens, sentence by sentence: names, numbers, signs, blanks and words, as compile tells them apart. */
public final class TokenTest {
    /** In each, # stands for a name that is new there. */
    private static final String[] NAME_PLACES = {
        "port #=1;mode A 1{}", "sensor #;mode A 1{}", "mode # 1{}", "mode A 1{task # 1 on 0{}}",
        "mode A 1{task t 1 on 0{#=1;}}",
    };
    /** In each, # stands for a number that may be 1. */
    private static final String[] NUMBER_PLACES = {
        "port p=#;mode A 1{}", "mode A #{}", "mode A 1{task t # on 0{}}", "mode A 1{task t 1 on #{}}",
        "mode A 1{task t 1 on 0{repeat #{}}}", "mode A 1{task t 1 on 0{x=#;}}", "mode A 1{task t 1 on 0{if #{}}}",
        "mode A 1{switch # if 1 to A;}", "mode A 1{switch 1 if # to A;}", "mode A 2{slots #;}", "mode A 2{slots 0,#;}",
    };

    public static void main(String[] args) {
        namesBeginWithALetter();
        namesGoOnWithLettersOrDigits();
        namesHaveEightAtMost();
        namesDiffer();
        numbersAreDigits();
        numbersHaveSixAtMost();
        signs();
        otherBytes();
        blanksMayStand();
        blanksMustStand();
        letterBehindANumber();
        wordsAreNoNames();
        nearlyWordsAreNames();
        Due.close();
    }

    private static String put(String place, String token) {
        return place.replace("#", token);
    }

    private static void namesBeginWithALetter() {
        Due.sentence("NAMES (a letter, ..");
        for (int b = 0; b < 256; b++) {
            String text = "mode " + (char) b + " 5{}";
            if (Texts.isLetter(b)) {
                Texts.good(text);
            } else {
                Texts.fault(text, Texts.isBlank(b) ? 7 : 5);
            }
        }
    }

    private static void namesGoOnWithLettersOrDigits() {
        Due.sentence(".. then letters or digits ..");
        for (int b = 0; b < 256; b++) {
            String text = "mode A" + (char) b + "Z 5{}";
            if (Texts.isLetter(b) || Texts.isDigit(b)) {
                Texts.good(text);
            } else {
                Texts.fault(text, Texts.isBlank(b) ? 7 : 6);
            }
        }
    }

    private static void namesHaveEightAtMost() {
        Due.sentence(".. at most eight in all)");
        String letters = "abcdefghijklmnopqrstuvwxyz";
        for (String place : NAME_PLACES) {
            for (int size = 1; size <= 8; size++) {
                // With Z at its front none of them is a name or a word that stands in the text already.
                Texts.good(put(place, "Z" + letters.substring(1, size)));
            }
            for (int size : new int[] {9, 10, 16, 26}) {
                Texts.bad(put(place, "^" + letters.substring(0, size)));
            }
            Texts.good(put(place, "Z2345678"));
            Texts.bad(put(place, "^Z23456789"));
        }
        Texts.good("mode abcdefgh 1{switch 1 if 1 to abcdefgh;}");
        Texts.bad("mode abcdefgh 1{switch 1 if 1 to ^abcdefghi;}");
        Texts.good(Texts.inTask("abcdefgh=1;p=abcdefgh;"));
        Texts.bad(Texts.inTask("abcdefgh=1;p=^abcdefghi;"));
        Texts.bad("mode A 1{}^abcdefghi");
        Texts.bad("^portportp=1;mode A 1{}");
    }

    private static void namesDiffer() {
        Due.sentence("NAMES are the same by all of their letters and digits");
        LogicalTimes x = Due.run("port abcdefgh=1;port abcdefgi=2;port Abcdefgh=3;port abcdefg=4;port bbcdefgh=5;port a=6;"
            + "port y=0;port z=0;mode M 1{task t 1 on 0{y=abcdefgh+abcdefgi*10+Abcdefgh*100;"
            + "z=abcdefg+bbcdefgh*10+a*100;}}");
        x.tick(2);
        Due.same("the first three by their names", x.denoted(6), 321);
        Due.same("the others by theirs", x.denoted(7), 654);
    }

    private static void numbersAreDigits() {
        Due.sentence("NUMBERS (one .. digits)");
        for (int b = 0; b < 256; b++) {
            String text = "mode A 1" + (char) b + "{}";
            if (Texts.isDigit(b) || Texts.isBlank(b)) {
                Texts.good(text);
            } else {
                Texts.fault(text, b == '{' ? 9 : 8);
            }
        }
        for (int d = 0; d <= 9; d++) {
            Due.same("the digit " + d, Due.run("port p=" + d + ";mode A 1{}").denoted(0), d);
        }
        Due.same("123456", Due.run("port p=123456;mode A 1{}").denoted(0), 123456);
    }

    private static void numbersHaveSixAtMost() {
        Due.sentence("NUMBERS (.. to six digits)");
        for (String place : NUMBER_PLACES) {
            for (int zeros = 0; zeros <= 5; zeros++) {
                Texts.good(put(place, "0".repeat(zeros) + "1"));
            }
            for (int zeros : new int[] {6, 7, 20}) {
                Texts.bad(put(place, "^" + "0".repeat(zeros) + "1"));
            }
        }
        Due.same("the largest", Due.run("port p=999999;mode A 1{}").denoted(0), 999999);
        Texts.bad("port p=^1000000;mode A 1{}");
        LogicalTimes x = Due.run("port p=0;mode A 1{task t 1 on 0{p=999999;}}");
        x.tick(2);
        Due.same("the largest in an E", x.denoted(0), 999999);
        Texts.bad(Texts.inTask("p=^1000000;"));
        Texts.bad(Texts.inTask("p=^4294967297;"));
        Texts.bad(Texts.inTask("p=^18446744073709551617;"));
    }

    private static void signs() {
        Due.sentence("the signs { } ; , = + - * / % < > ( )");
        Texts.good("port p=0;mode A 9{task t 1 on 0{p=(1+2-3*4/5%6<7)>8;}slots 1,2;}");
        // Each byte between two numbers of an E: the signs that join them, a digit, or a fault.
        String ahead = "port p=0;mode A 9{task t 1 on 0{p=1";
        for (int b = 0; b < 256; b++) {
            String text = ahead + (char) b + "1;}}";
            if (Texts.isDigit(b) || "+-*/%<>".indexOf(b) >= 0) {
                Texts.good(text);
            } else {
                Texts.fault(text, ahead.length() + (Texts.isBlank(b) || b == ';' ? 1 : 0));
            }
        }
    }

    private static void otherBytes() {
        Due.sentence("the place of a byte that begins no token");
        for (int b = 0; b < 256; b++) {
            String text = "mode A 5{}" + (char) b;
            if (Texts.isBlank(b)) {
                Texts.good(text);
            } else {
                Texts.fault(text, 10);
            }
            if (!Texts.isBlank(b) && !Texts.isLetter(b) && !Texts.isDigit(b)) {
                Texts.fault((char) b + "mode A 5{}", 0);
                Texts.fault("mode A 5" + (b == '{' ? '}' : (char) b) + "{}", 8);
            }
        }
    }

    private static void blanksMayStand() {
        Due.sentence("Blanks (32, 9, 10, 13) may stand between tokens");
        String spaced = " port p = 1 ; sensor s ; mode M 6 { task t 2 on 0 { x = - ( p + s ) ; if x < 1 { p = x ; } else { "
            + "repeat 3 { p = 2 ; } } } switch 2 if p > 3 to M ; slots 2 , 5 ; } ";
        Texts.good(spaced);
        Texts.good(spaced.replace(' ', '\t'));
        Texts.good(spaced.replace(' ', '\n'));
        Texts.good(spaced.replace(' ', '\r'));
        Texts.good(spaced.replace(" ", " \t\n\r\r\n\t "));
        Texts.good("port p=1;sensor s;mode M 6{task t 2 on 0{x=-(p+s);if x<1{p=x;}else{repeat 3{p=2;}}}"
            + "switch 2 if p>3 to M;slots 2,5;}");
        for (int b = 0; b < 256; b++) {
            String text = "mode A" + (char) b + "5{}";
            if (Texts.isBlank(b)) {
                Texts.good(text);
            } else {
                Texts.fault(text, Texts.isLetter(b) || Texts.isDigit(b) ? 8 : 6);
            }
        }
        Texts.bad("mode A 1 ^2{}");
        Texts.bad("mode A ^B 1{}");
    }

    private static void blanksMustStand() {
        Due.sentence("Blanks .. must between names and numbers");
        Texts.bad("mode A5^{}");
        Texts.bad("^modeA 5{}");
        Texts.bad("^port1=1;mode A 1{}");
        Texts.bad("mode A 5{^taskt 1 on 0{}}");
        Texts.bad("mode A 5{task t1 ^on 0{}}");
        Texts.bad("mode A 5{task t 1 ^on0{}}");
        Texts.bad("mode A 5{^switch1 if 1 to A;}");
        Texts.bad("mode A 5{switch 1 ^if1 to A;}");
        Texts.bad("mode A 5{switch 1 if 1 ^toA;}");
        Texts.bad("mode A 5{^slots1;}");
        Texts.bad(Texts.inTask("repeat1^{}"));
        Texts.good("mode A 5{switch 1 if(1)to A;}");
        Texts.good(Texts.inTask("if(s){}else{}x=1;if-x{}"));
    }

    private static void letterBehindANumber() {
        Due.sentence("a letter right behind a number begins no token");
        for (int b = 0; b < 256; b++) {
            if (Texts.isLetter(b)) {
                Texts.fault("mode A 5" + (char) b + "{}", 8);
                Texts.fault(Texts.inTask("p=12" + (char) b + ";"), Texts.inTask("").indexOf("}}") + 4);
            }
        }
        Texts.bad("mode A 5^mode{}");
        Texts.bad("mode A 5{task t 1^on 0{}}");
        Texts.good("mode A 5{task t 1 on 0{}}");
        Texts.bad("mode A 5{switch 1^if 1 to A;}");
        Texts.bad("mode A 5{switch 1 if 1^to A;}");
        Texts.good("mode A 5{switch 1 if 1 to A;}");
        Texts.bad("mode A ^999999x{}");
        Texts.bad("mode A ^0000005x{}");
        Texts.bad("mode A 5^abcdefghijk{}");
        // A letter behind the digits of a name is one of the name's.
        Texts.good("mode A5x 5{}");
    }

    private static void wordsAreNoNames() {
        Due.sentence("WORDS (port, sensor, mode, task, on, if, else, repeat, switch, to, slots) are no names");
        for (String word : Texts.WORDS) {
            for (String place : NAME_PLACES) {
                boolean beginsStatement = place.contains("{#") && (word.equals("if") || word.equals("repeat"));
                Texts.bad(put(place, beginsStatement ? word + "^" : "^" + word));
            }
            Texts.bad(Texts.inTask("p=^" + word + ";"));
            Texts.bad(Texts.inTask("if ^" + word + "{}"));
            Texts.bad("mode A 1{switch 1 if ^" + word + " to A;}");
            Texts.bad("mode A 1{switch 1 if 1 to ^" + word + ";}");
        }
    }

    private static void nearlyWordsAreNames() {
        Due.sentence("WORDS are no names: these alone");
        for (String word : Texts.WORDS) {
            String[] nearly = {word + "s", word + "0", word.substring(1), word.substring(0, word.length() - 1),
                word.toUpperCase(), word.substring(0, 1).toUpperCase() + word.substring(1)};
            for (String name : nearly) {
                for (String place : NAME_PLACES) {
                    Texts.good(put(place, name));
                }
            }
            Texts.bad("^" + word.toUpperCase() + " A 5{}");
        }
    }
}
