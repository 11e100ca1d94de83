/** The edges that the document names of leases: promise 20, and what a text may be and gives. */
public final class EdgesLeasesTest extends Bench {
    private static final String NAMES = "tfaovknmxc";

    public static void main(String[] args) {
        refused();
        usesUpTheTape();
        stays();
        numbersAndNames();
        longest();
        numbers();
        names();
        everyByte();
        wordsAndSigns();
        blanks();
        wordBehindWord();
        oneTest();
        endTooSoon();
        firstWrong();
        nineBrackets();
        nineBangs();
        wraps();
        divides();
        truth();
        asManyAsGo();
        loosest();
        valuesOfNames();
        end(20, 20, 0);
    }

    private static void refused() {
        about(20, "BAD: shop (asked first)");
        due(BAD, x.lease(0));
        shops(1);
        for (int shop : new int[] {-1, 1, 12, MIN, MAX}) {
            write("nonsense");
            due(BAD, x.lease(shop));
            write(STAYS);
            due(BAD, x.lease(shop));
        }
        due(0, x.count(5));
    }

    private static void usesUpTheTape() {
        about(20, "an act that reads it uses it up, whatever it answers");
        shops(1);
        write(STAYS);
        due(3, x.lease(0));
        due(0, x.count(8));
        due(-100, x.lease(0));
        write("base 1 turn");
        due(-111, x.lease(0));
        due(0, x.count(8));
        write(STAYS);
        due(BAD, x.lease(1));
        due(0, x.count(8));
        due(BAD, x.trim(1));
        due(12, x.feed(0, 0, 0));
    }

    private static void stays() {
        about(20, "-100 less the place of its fault: then the LEASE stays");
        shopsIn(0, 1);
        leased(0, "base 5 turn 0 leave 0", 3);
        fault("", 0);
        fault("base 6 turn 0 leave 0 0", 22);
        fault("base 6 turn 0 leave", 19);
        due(5, x.rent(0, 0, 0));
        due(1, x.count(5));
        due(0, x.rent(1, 0, 0));
        leased(1, "base 6 turn 0 leave 0 0", -122);
        due(0, x.rent(1, 0, 0));
        due(1, x.count(5));
        // another one takes its place
        leased(0, "base 6 turn 0 leave 0", 3);
        due(6, x.rent(0, 0, 0));
        due(1, x.count(5));
        // the last place that a fault can have
        fault("base " + "1+".repeat(63) + " ", 132);
        due(6, x.rent(0, 0, 0));
    }

    private static void numbersAndNames() {
        about(20, "THE TAPE is the LEASE of a SHOP: how many NUMBERS and NAMES it has.");
        shopsIn(0);
        leased(0, "base 1 turn 1 leave 1", 3);
        leased(0, "base t turn t leave t", 3);
        leased(0, "base !(!(t)) turn ((1)) leave !!1", 3);
        leased(0, "base t+1 turn t-1|f leave 0*0*0", 8);
        String most = "base 1" + "+1".repeat(55) + " turn 1 leave 1";
        due(131, most.length());
        leased(0, most, 58);
        due(57, x.rent(0, 0, 0));
        leased(0, most + " ", 58);
        for (int shop = 1; shop < 12; shop++) {
            shops(1);
            leased(shop, STAYS, 3);
            due(shop + 1, x.count(5));
        }
    }

    private static void longest() {
        about(20, "(132 bytes at most");
        shopsIn(0);
        String text = "base " + "1+".repeat(55) + "10 turn 1 leave 1";
        due(132, text.length());
        leased(0, text, 58);
        due(66, x.rent(0, 0, 0));
        leased(0, " ".repeat(132 - STAYS.length()) + STAYS, 3);
        due(0, x.rent(0, 0, 0));
        leased(0, " ".repeat(132), -232);
    }

    private static void numbers() {
        about(20, "NUMBER (1 to 5 digits)");
        shopsIn(0);
        gives("0", 0);
        gives("9", 9);
        gives("10", 10);
        gives("99999", 99999);
        gives("00000", 0);
        gives("00012", 12);

        about(20, "a NUMBER of more than 5 digits");
        shops(1);
        fault("base 100000 turn 1 leave 1", 5);
        fault("base 000001 turn 1 leave 1", 5);
        fault("base 1 turn 1+123456 leave 1", 14);
        fault("base 1 turn 1 leave 123456", 20);
        fault("base " + "9".repeat(127), 5);
        fault("base 4294967297 turn 1 leave 1", 5);
        leased(0, "base 12345 turn 1 leave 1", 3);
    }

    private static void names() {
        about(20, "NAMES, each one letter");
        shopsIn(0);
        for (char one = 'a'; one <= 'z'; one++) {
            boolean name = NAMES.indexOf(one) >= 0;
            leased(0, "base " + one + " turn 1 leave 1", name ? 3 : -105);
            fault("base t" + one + " turn 1 leave 1", 5);
            leased(0, "base 1 turn 1 leave 0+" + one, name ? 4 : -122);
        }
    }

    /** Each of the 256 bytes where a PART may begin, and where a sign may join two. */
    private static void everyByte() {
        about(20, "the first byte of the first word or sign with which no TEXT goes on");
        shops(1);
        for (int b = 0; b < 256; b++) {
            String one = "" + (char) b;
            if (b % 16 == 0) {
                fresh();
                shops(1);
            }
            boolean part = b >= '0' && b <= '9' || NAMES.contains(one);
            leased(0, "base " + one + " turn 1 leave 1", part ? 3 : "(! ".contains(one) ? -107 : -105);
            boolean digit = b >= '0' && b <= '9';
            leased(0, "base 1" + one + "2 turn 1 leave 1",
                    digit ? 3 : "|&<=>+-*/".contains(one) ? 4 : b == ' ' ? -107 : -106);
        }
    }

    private static void wordsAndSigns() {
        about(20, "A word is a row of letters a .. z, or of digits, as long as it goes; any other byte is a sign by itself.");
        shops(1);
        fault("basea 1 turn 1 leave 1", 0);
        fault("bas e 1 turn 1 leave 1", 0);
        fault("base 1 turnt 1 leave 1", 7);
        fault("base 1 turn 1 leaves 1", 14);
        fault("base 1 turn 1 leave z", 20);
        fault("Base 1 turn 1 leave 1", 0);
        fault("baSe 1 turn 1 leave 1", 0);
        fault("base T turn 1 leave 1", 5);
        fault("base 1 turn 1 leave `", 20);
        fault("base 1 turn 1 leave {", 20);
        fault("base 1 turn 1 leave :", 20);
        fault("base 1 turn 1 leave 1:", 21);
        // two bytes that elsewhere are one sign
        fault("base 1<=1 turn 1 leave 1", 7);
        fault("base 1==1 turn 1 leave 1", 7);
        fault("base 1!=1 turn 1 leave 1", 6);
        fault("base 1||1 turn 1 leave 1", 7);
        leased(0, "base 1-!1 turn 1 leave 1", 4);
    }

    private static void blanks() {
        about(20, "Between words and signs, and at the ends, there may be blanks (byte 32)");
        shops(1);
        leased(0, "base(1)turn(1)leave(1)", 3);
        leased(0, "base!1turn 1 leave 1", -106);
        leased(0, "  base  (  1  )  turn  !  !  1  leave  1  <  1  ", 4);
        leased(0, "base 1 turn 1 leave 1" + " ".repeat(111), 3);
        leased(0, " ".repeat(111) + "base 1 turn 1 leave 1", 3);
        fault("\tbase 1 turn 1 leave 1", 0);
        fault("base 1 turn 1 leave 1\n", 21);
        fault("base 1\u00a0turn 1 leave 1", 6);
        fault("base 1\0turn 1 leave 1", 6);
        fault("base 1 turn 1 leave 1\0", 21);
        // not within a word
        fault("ba se 1 turn 1 leave 1", 0);
        fault("base 1 2 turn 1 leave 1", 7);
    }

    private static void wordBehindWord() {
        about(20, "a word right behind another one needs one");
        shops(1);
        fault("base1 turn 1 leave 1", 4);
        fault("base 1turn 1 leave 1", 6);
        fault("base 1 turn1 leave 1", 11);
        fault("base 1 turn 1leave 1", 13);
        fault("base 1 turn 1 leave1", 19);
        fault("base t1 turn 1 leave 1", 6);
        fault("base 1t turn 1 leave 1", 6);
        fault("base t turn 1 leave 1t", 21);
        fault("base1", 4);
        leased(0, "base (1)turn(1)leave 1", 3);
        leased(0, "base 1*t turn 1 leave 1", 4);
    }

    private static void oneTest() {
        about(20, "TEST: SUM [ (< | = | >) SUM ]");
        shopsIn(0);
        for (char first : "<=>".toCharArray()) {
            leased(0, "base 1" + first + "2 turn 1 leave 1", 4);
            for (char next : "<=>".toCharArray()) {
                fault("base 1" + first + "2" + next + "3 turn 1 leave 1", 8);
                fault("base 1+0" + first + "2*1" + next + "3 turn 1 leave 1", 12);
                leased(0, "base (1" + first + "2)" + next + "3 turn 1 leave 1", 5);
                leased(0, "base 1" + first + "2&2" + next + "3 turn 1 leave 1", 6);
                leased(0, "base 1" + first + "2|2" + next + "3 turn 1 leave 1", 6);
            }
        }
        gives("1<2", 1);
        gives("2<2", 0);
        gives("3<2", 0);
        gives("1=2", 0);
        gives("2=2", 1);
        gives("1>2", 0);
        gives("2>2", 0);
        gives("3>2", 1);
    }

    /** Each beginning of a text that could go on, and where its last word is no word yet. */
    private static void endTooSoon() {
        about(20, "the end (the place behind the last byte), if it comes too soon");
        shops(1);
        String text = "base 1 turn 1 leave 1";
        int[] place = {0, 0, 0, 0, 4, 5, 6, 7, 7, 7, 7, 11, 12, 13, 14, 14, 14, 14, 14, 19, 20};
        for (int n = 0; n < text.length(); n++) fault(text.substring(0, n), place[n]);
        leased(0, text, 3);
        fault("base ", 5);
        fault("base     ", 9);
        fault("base (", 6);
        fault("base (1", 7);
        fault("base !", 6);
        fault("base 1+", 7);
        fault("base 1 turn 1 leave 1+", 22);
        fault("base 1 turn 1 leave (1", 22);
        fault("base 1 turn 1 leave (1 ", 23);
        fault("base 1 turn 1 leave !", 21);
        fault("base 1 turn 1 leave 1<", 22);
        fault("", 0);
        fault(" ", 1);
    }

    private static void firstWrong() {
        about(20, "base E turn E leave E");
        shops(1);
        fault("turn 1 base 1 leave 1", 0);
        fault("leave 1", 0);
        fault("1", 0);
        fault("t 1 turn 1 leave 1", 0);
        fault("case 1 turn 1 leave 1", 0);
        fault("base 1 burn 1 leave 1", 7);
        fault("base 1 turn 1 heave 1", 14);
        fault("base base turn 1 leave 1", 5);
        fault("base 1 turn turn leave 1", 12);
        fault("base 1 turn 1 leave leave", 20);
        fault("base 1+base turn 1 leave 1", 7);
        fault("base 1 t 1 leave 1", 7);
        fault("(base 1 turn 1 leave 1)", 0);
        fault("base turn 1 leave 1", 5);
        fault("base 1 leave 1 turn 1", 7);
        fault("base 1 base 1", 7);
        fault("base 1 turn leave 1", 12);
        fault("base 1 turn 1 turn 1 leave 1", 14);
        fault("base 1 turn 1 leave 1 leave 1", 22);
        fault("base 1 turn 1 leave 1 base 1", 22);
        fault("base (1 turn 1) leave 1", 8);
        fault("base () turn 1 leave 1", 6);
        fault("base 1) turn 1 leave 1", 6);
        fault("base (1)) turn 1 leave 1", 8);
        fault("base 1(1) turn 1 leave 1", 6);
        fault("base (1)(1) turn 1 leave 1", 8);
        fault("base +1 turn 1 leave 1", 5);
        fault("base 1+-1 turn 1 leave 1", 7);
        fault("base 1+*1 turn 1 leave 1", 7);
        fault("base 1 turn 1 leave 1 ) ", 22);
    }

    private static void nineBrackets() {
        about(20, "the ninth (");
        shops(1);
        String in = "(((((((("; String out = "))))))))";
        leased(0, "base " + in + "1" + out + " turn 1 leave 1", 3);
        fault("base (" + in + "1" + out + ") turn 1 leave 1", 13);
        fault("base 1 turn (" + in + "1" + out + ") leave 1", 20);
        fault("base 1 turn 1 leave (" + in + "1" + out + ")", 28);
        fault("base " + in + "1+(1)" + out + " turn 1 leave 1", 15);
        fault("base ( ( ( ( ( ( ( ( ( 1", 21);
        // what is closed is open no more, and each E begins anew
        leased(0, "base " + in + "1)+(1)" + out.substring(1) + " turn " + in + "1" + out + " leave " + in + "1" + out, 4);
        leased(0, "base (1)+(1)+(1)+(1)+(1)+(1)+(1)+(1)+(1)+" + in + "1" + out + " turn 1 leave 1", 12);
    }

    private static void nineBangs() {
        about(20, "the ninth ! that would be open within one another");
        shopsIn(0);
        String eight = "!!!!!!!!";
        leased(0, "base " + eight + "5 turn 1 leave 1", 3);
        due(2, x.rent(0, 0, 0));
        fault("base !" + eight + "5 turn 1 leave 1", 13);
        fault("base 1 turn !" + eight + "5 leave 1", 20);
        fault("base 1 turn 1 leave !" + eight + "5", 28);
        fault("base " + eight + "(1+!1) turn 1 leave 1", 16);
        leased(0, "base " + eight + "1+" + eight + "1 turn " + eight + "1 leave " + eight + "1", 4);
        leased(0, "base !(!!!!!!!1)+!1 turn 1 leave 1", 4);
        // each is counted for itself
        leased(0, "base ((((((((" + eight + "1)))))))) turn 1 leave 1", 3);
        leased(0, "base " + eight + "((((((((1)))))))) turn 1 leave 1", 3);
        fault("base !(!(!(!(!(!(!(!(!1)))))))) turn 1 leave 1", 21);
        fault("base !(!(!(!(!(!(!(!((1)))))))) turn 1 leave 1", 21);
    }

    private static void wraps() {
        about(20, "Ints wrap");
        shopsIn(0);
        gives("65536*32768-1>0", 1);
        gives("65536*32768<0", 1);
        gives("65536*32768-1+1<0", 1);
        gives("65536*32768-1-(0-1)<0", 1);
        gives("0-65536*32768<0", 1);
        gives("65536*32768=0-65536*32768", 1);
        gives("0-65536*32768-1>0", 1);
        gives("65536*65536", 0);
        gives("65536*65536+7", 7);
        gives("46340*46340>0", 1);
        gives("46341*46341<0", 1);
        gives("65536*32768+65536*32768", 0);
        gives("99999*99999/50000", 28197);
    }

    private static void divides() {
        about(20, "/ cuts towards 0, and is 0 by 0");
        shopsIn(0);
        gives("7/2", 3);
        gives("(0-7)/2+10", 7);
        gives("7/(0-2)+10", 7);
        gives("(0-7)/(0-2)", 3);
        gives("(0-1)/2+5", 5);
        gives("7/0", 0);
        gives("(0-7)/0", 0);
        gives("0/0", 0);
        gives("0/5", 0);
        gives("7/(1-1)+4", 4);
        gives("5/5", 1);
        gives("4/5", 0);
        gives("65536*32768/(0-1)=65536*32768", 1);
        gives("65536*32768/1=65536*32768", 1);
    }

    private static void truth() {
        about(20, "tests, & | ! give 1 or 0 (what is not 0 is true; both sides are worked out)");
        shopsIn(0);
        gives("5&7", 1);
        gives("2&1", 1);
        gives("(0-1)&(0-1)", 1);
        gives("5&0", 0);
        gives("0&5", 0);
        gives("0|0", 0);
        gives("5|0", 1);
        gives("0|(0-5)", 1);
        gives("!0", 1);
        gives("!1", 0);
        gives("!5", 0);
        gives("!(0-1)", 0);
        gives("!!(0-1)", 1);
        gives("(5>4)*9", 9);
        // 0 itself, not something below it
        String[] untrue = {"5&0", "0&5", "0&0", "0|0", "!5", "1<1", "1=2", "1>1"};
        for (String e : untrue) gives("(" + e + ")+7", 7);
        gives("0&7/0", 0);
        gives("1|7/0", 1);
    }

    private static void asManyAsGo() {
        about(20, "SUM: TERM { (+ | -) TERM }; TERM: PART { (* | /) PART }; PART: NUMBER (1 to 5 digits) | NAME | ! PART | ( E )");
        shopsIn(0);
        for (char sign : "+-*/&|".toCharArray()) {
            String most = "base 1" + (sign + "1").repeat(55) + " turn 1 leave 1";
            int[] rent = {56, 0, 1, 1, 1, 1};
            leased(0, most, 58);
            due(1 + rent["+-*/&|".indexOf(sign)], x.rent(0, 0, 0));
            fault("base 1" + (sign + "1").repeat(55) + sign + " turn 1 leave 1", 5 + 113);
        }
        gives("!(t)", 1);
        gives("(!t)", 1);
        gives("((t)+(1))", 1);
        gives("!f", 0);
        gives("1-!t*1", 0);
    }

    private static void loosest() {
        about(20, "E, the loosest first");
        shopsIn(0);
        gives("1|0&0", 1);
        gives("(1|0)&0", 0);
        gives("2&2=2", 1);
        gives("(2&2)=2", 0);
        gives("1+1=2", 1);
        gives("1+(1=2)", 1);
        gives("2+3*4", 14);
        gives("!0*5", 5);
        gives("!(0*5)", 1);
        gives("!1+1", 1);
        gives("20-3-4", 13);
        gives("100/7/2", 7);
        gives("100/7*2", 28);
        gives("7*100/7", 100);
    }

    private static void valuesOfNames() {
        about(20, "a ANCHORS that are IN (others), o SHOPS that are IN (others)");
        x.shop(1, 0, 0, 1, 1);
        x.move(0, 0);
        gives("a", 0);
        gives("o", 0);
        for (int i = 1; i < 12; i++) {
            x.shop(1, 1, 0, 1, 1);
            x.move(i, i);
        }
        gives("a", 11);
        gives("o", 11);

        about(20, "n SHOPS that are IN the PLACES right beside");
        shopsIn(0);
        gives("n", 0);
        shopsIn(2, 11, 1);
        gives("n", 1);
        x.move(0, 10);
        gives("n", 1);
        x.move(1, 9);
        gives("n", 2);

        about(20, "x whether some SHOP of its SORT is IN NEAR PLACES from it or nearer (1, 0)");
        x.shop(0, 0, 0, 301, 1);
        x.shop(0, 0, 0, 1101, 1);
        x.shop(0, 1, 0, 1101, 1);
        x.move(0, 5);
        gives("x", 0);
        gives("x+7", 7);
        x.move(1, 9);
        x.move(2, 6);
        gives("x", 0);
        x.move(1, 8);
        gives("x", 1);
        x.move(1, 2);
        gives("x", 1);
        x.move(1, 1);
        gives("x", 0);

        about(20, "t TAKINGS, f FEET of its PLACE");
        shopsIn(11);
        gives("t", 0);
        x.take(0, 0, -1);
        gives("t", 0);
        x.take(0, 0, 2);
        gives("t", 1);
        gives("f", 100);
        x.feet(11, 10);
        gives("f", 10);
        x.feet(11, 999);
        gives("f", 999);

        about(20, "v PEOPLE PAST its PLACE, k KIND");
        for (int kind = 0; kind < 4; kind++) {
            fresh();
            x.shop(kind, 0, 0, 1, 1);
            x.move(0, 0);
            gives("k", kind);
            gives("v", 0);
            x.door(0, 9999);
            shopsIn(1);
            gives("v", 9999);
        }

        about(20, "c COMERS (all for a MONTH)");
        for (int i = 0; i < 4; i++) x.door(i, 9999);
        shopsIn(11);
        gives("c", 39996);
        gives("m", 0);
        months(120);
        gives("m", 120);
    }
}
