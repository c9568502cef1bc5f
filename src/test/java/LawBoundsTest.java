import java.util.List;

/** The edges of the laws' text, of what is broken and of the first breach: promises 9, 22, 23. */
public final class LawBoundsTest {
    private static final String TERMS = "Terms";
    private static final String EIGHT = "a:1 over 1 below 1;b:1 over 1 below 1;c:1 over 1 below 1;d:1 over 1 below 1;"
        + "e:1 over 1 below 1;f:1 over 1 below 1;g:1 over 1 below 1;h:1 over 1 below 1;";
    private static final String[] WORDS = {"fine", "small", "coarse", "grit", "warmth", "hour", "over", "below"};
    /** 2 to the 62nd, as a product. */
    private static final String QUARTER = "4096*4096*4096*4096*4096*4";
    private static final String CYCLONE = "cyclone c holds 0,0,0,0;works w at c;";

    private LawBoundsTest() {
    }

    public static void main(String[] args) {
        longestText();
        blanksAndSigns();
        anyNumberOfLaws();
        formOfALaw();
        sums();
        items();
        atoms();
        variables();
        names();
        faultsOneAndTwo();
        faultThree();
        faultFour();
        faultFive();
        faultSix();
        lawsInPlace();
        roundOn();
        notBelow();
        fewerAhead();
        firstBreach();
        firstBytes();
        statusesOfLaws();
        statusesOfBroken();
        statusesOfBreach();
        Due.end();
    }

    private static String blanks(int many) {
        return " ".repeat(many);
    }

    // ---- the text

    private static void longestText() {
        Due.says(TERMS, "LAWS: a TEXT of at most 600 bytes.");
        String law = "l:hour over 1 below 5;";
        Due.rightLaws(1, law + blanks(600 - law.length()));
        Due.rightLaws(1, blanks(600 - law.length()) + law);
        Due.wrongLaws(2, blanks(601 - law.length()) + law.substring(0, law.length() - 1) + "^");
        String end = "1 over 1 below 291;";
        String most = "l:" + "1+".repeat((598 - end.length()) / 2) + " " + end;
        Due.is("bytes", most.length(), 600);
        FlueHouse x = Due.rightLaws(1, most);
        Due.fine(x, "a sum of 290 is below 291", x.broken(0, 0), 0);
        x = Due.rightLaws(1, most.replace("291", "290"));
        Due.fine(x, "but not below 290", x.broken(0, 0), 1);
    }

    private static void blanksAndSigns() {
        Due.says(TERMS, "TOKENS as above, but SIGNS : ; + - * ( )");
        Due.rightLaws(1, "\nl:(1+2)*3-4\nover\n1 below 1;");
        Due.rightLaws(1, "l:1over1below1;");
        for (int b = 0; b < 256; b++) {
            char c = (char) b;
            boolean token = (c >= 'a' && c <= 'z') || (c >= '0' && c <= '9') || ":;+-*()".indexOf(c) >= 0;
            if (c == '^' || token) {
                continue;
            }
            if (b == 10 || b == 32) {
                Due.rightLaws(1, "l" + c + ":1 over 1 below 1;" + c);
            } else {
                Due.wrongLaws(1, "l^" + c + ":1 over 1 below 1;");
                Due.wrongLaws(1, EIGHT + "^" + c);
            }
        }
        Due.wrongLaws(1, "l:1^,2 over 1 below 1;");
        for (char c : ";+-*()".toCharArray()) {
            Due.wrongLaws(2, "l^" + c + ":1 over 1 below 1;");
        }
        Due.wrongLaws(2, "l:^:1 over 1 below 1;");
    }

    private static void anyNumberOfLaws() {
        Due.says(TERMS, "TEXT: {LAW}.");
        Due.rightLaws(0, "");
        Due.rightLaws(0, " \n");
        Due.rightLaws(1, "l:1 over 1 below 1;");
        Due.rightLaws(2, "l:1 over 1 below 1;m:1 over 1 below 1;");
        Due.rightLaws(8, EIGHT);
        Due.wrongLaws(2, "^;");
        Due.wrongLaws(2, "l:1 over 1 below 1;^;");
        Due.wrongLaws(2, "^7");
    }

    /** Cut, with each of its tokens left out, and with each of them twice. */
    private static void formOfALaw() {
        Due.says(TERMS, "LAW: NAME : SUM over NUMBER below NUMBER ;");
        String law = "l : fine + 2 * ( hour - 3 ) over 2 below 5 ;";
        Due.rightLaws(1, law);
        List<String> tokens = List.of(law.split(" "));
        for (int i = 0; i < tokens.size(); i++) {
            String start = String.join(" ", tokens.subList(0, i));
            String token = tokens.get(i);
            String rest = String.join(" ", tokens.subList(i + 1, tokens.size()));
            if (i > 0) {
                Due.wrongLaws(2, start + "^");
                Due.wrongLaws(2, start + " \n^");
            }
            // Without the bracket that opens, and with it twice, the text goes wrong only later.
            boolean opens = token.equals("(");
            Due.wrongLaws(2, opens ? start + " " + rest.replace(")", "^)") : start + " ^" + rest);
            Due.wrongLaws(2, opens ? start + " ( ( " + rest.replace("over", "^over")
                : start + " " + token + " ^" + token + " " + rest);
        }
        Due.wrongLaws(2, "l: ^over 1 below 1;");
        Due.wrongLaws(2, "l ^over 1 below 1;");
        Due.wrongLaws(2, "l:1 ^below 1;");
        Due.wrongLaws(2, "l:1 over 1^;");
        Due.wrongLaws(2, "l:1^;");
        Due.wrongLaws(2, "l^;");
        Due.wrongLaws(2, "l:1 ^below 1 over 1;");
        Due.wrongLaws(2, "l:1 over ^hour below 1;");
        Due.wrongLaws(2, "l:1 over 1 below ^fine;");
        Due.wrongLaws(2, "l:1 over ^(1) below 1;");
        Due.wrongLaws(2, "l:1 over 1 below ^-1;");
    }

    private static void sums() {
        Due.says(TERMS, "SUM: ITEM {+ ITEM, or - ITEM}.");
        sumIs("7", 7);
        sumIs("7+8", 15);
        sumIs("9-4-3", 2);
        sumIs("9-4+3", 8);
        sumIs("9-(4-3)", 8);
        Due.wrongLaws(2, "l:^+1 over 1 below 1;");
        Due.wrongLaws(2, "l:^-1 over 1 below 1;");
        Due.wrongLaws(2, "l:1-^-1 over 1 below 1;");
        Due.wrongLaws(2, "l:1+ ^over 1 below 1;");
    }

    private static void items() {
        Due.says(TERMS, "ITEM: ATOM {* ATOM}.");
        sumIs("2*3", 6);
        sumIs("2*3*4", 24);
        sumIs("2+3*4", 14);
        sumIs("2*3+4", 10);
        sumIs("50-3*4*2-1", 25);
        sumIs("(2+3)*4", 20);
        sumIs("2*(3+4)*5", 70);
        Due.wrongLaws(2, "l:^*1 over 1 below 1;");
        Due.wrongLaws(2, "l:1*^*1 over 1 below 1;");
        Due.wrongLaws(2, "l:1* ^over 1 below 1;");
        Due.wrongLaws(2, "l:1 ^1 over 1 below 1;");
    }

    private static void atoms() {
        Due.says(TERMS, "ATOM: NUMBER, VARIABLE, or ( SUM ).");
        sumIs("0", 0);
        sumIs("0000", 0);
        sumIs("9998", 9998);
        sumIs("9999-9000", 999);
        sumIs("0012", 12);
        sumIs("(((5)))", 5);
        sumIs("4+(2-(3-(4-(5-(6-(7))))))", 4 + (2 - (3 - (4 - (5 - (6 - 7))))));
        sumIs("(1+2)*(3+4)*(5+6)", 231);
        sumIs("1+2*(3+1*(5+2*(7+1*(9+2*(2+3*(4+5))))))", 1 + 2 * (3 + (5 + 2 * (7 + (9 + 2 * (2 + 3 * 9))))));
        Due.wrongLaws(2, "l:(^) over 1 below 1;");
        Due.wrongLaws(2, "l:(1 ^over 1 below 1;");
        Due.wrongLaws(2, "l:1^) over 1 below 1;");
        Due.wrongLaws(2, "l:^dust over 1 below 1;");
        Due.wrongLaws(2, "l:^l over 1 below 1;");
        Due.wrongLaws(2, "l:^finefinefine over 1 below 1;");
    }

    /** The sum is not below its value, but below one more. */
    private static void sumIs(String sum, int value) {
        FlueHouse x = Due.rightLaws(2, "a:" + sum + " over 1 below " + value + ";b:" + sum + " over 1 below " + (value + 1)
            + ";");
        Due.fine(x, sum + " is not below " + value, x.broken(0, 0), 1);
        Due.fine(x, sum + " is below one more", x.broken(1, 0), 0);
    }

    private static void variables() {
        Due.says(TERMS, "VARIABLES: fine, small, coarse, grit (what is UP of SIZES 0 to 3 in an HOUR), warmth, hour.");
        FlueHouse x = Due.rightPlant(1, CYCLONE);
        String[] names = {"fine", "small", "coarse", "grit", "warmth"};
        for (int size = 0; size < 4; size++) {
            x.row(0, 40, size, 11 + size, 0);
        }
        x.warmth(40, 15);
        for (int v = 0; v < 5; v++) {
            Due.laws(x, "l:" + names[v] + " over 1 below " + (11 + v) + ";m:" + names[v] + " over 1 below " + (12 + v)
                + ";");
            Due.fine(x, names[v] + " is not below what it is", x.broken(0, 40), 1);
            Due.fine(x, names[v] + " is below one more", x.broken(1, 40), 0);
            Due.fine(x, names[v] + " in the hour ahead", x.broken(0, 39), 0);
            Due.fine(x, names[v] + " in the hour behind", x.broken(0, 41), 0);
        }
        Due.laws(x, "l:hour over 1 below 47;m:hour over 1 below 1;");
        Due.fine(x, "hour 46", x.broken(0, 46), 0);
        Due.fine(x, "hour 47", x.broken(0, 47), 1);
        Due.fine(x, "hour 0", x.broken(1, 0), 0);
        Due.fine(x, "hour 1", x.broken(1, 1), 1);
    }

    private static void names() {
        Due.says(TERMS, "NAME: a WORD of 1 to 8 letters that is no VARIABLE, nor over, nor below.");
        Due.rightLaws(1, "z:1 over 1 below 1;");
        Due.rightLaws(1, "zzzzzzzz:1 over 1 below 1;");
        Due.wrongLaws(2, "^zzzzzzzzz:1 over 1 below 1;");
        Due.wrongLaws(2, "^1:1 over 1 below 1;");
        for (String word : WORDS) {
            Due.wrongLaws(2, "^" + word + ":1 over 1 below 1;");
            Due.rightLaws(1, word + "s:1 over 1 below 1;");
            Due.rightLaws(1, word.substring(1) + ":1 over 1 below 1;");
        }
        for (String word : new String[] {"cyclone", "plates", "cloth", "spray", "join", "works", "holds", "layer", "flies",
            "full", "warm", "to", "at", "share", "stack"}) {
            Due.rightLaws(1, word + ":1 over 1 below 1;");
        }
    }

    // ---- the faults

    private static void faultsOneAndTwo() {
        Due.says(TERMS, "FAULTS likewise: 1, 2");
        Due.rightLaws(1, "l:9999 over 1 below 1;");
        Due.wrongLaws(1, "l:^10000 over 1 below 1;");
        Due.wrongLaws(1, "l:^00000 over 1 below 1;");
        Due.wrongLaws(1, "l:1 over ^00001 below 1;");
        Due.wrongLaws(1, "^12345");
        Due.wrongLaws(1, "^?");
        Due.wrongLaws(1, "l:1 ^?");
        Due.wrongLaws(2, "l:1^");
        Due.wrongLaws(2, "l:1  \n^");
        Due.wrongLaws(6, "l:1 over ^25 ?");
        Due.wrongLaws(1, "l:1 ^? over 25 below 1;");
        FlueHouse x = new FlueHouse();
        Due.feed(x, "l:1 over 1 below 1;");
        Due.refused(x, "laws(18): the text ends ahead of the ;", x.laws(18), 9);
        Due.is("fault(0)", x.fault(0), 2);
        Due.is("fault(1)", x.fault(1), 18);
    }

    private static void faultThree() {
        Due.says(TERMS, "3 a 9th LAW (at its NAME)");
        Due.rightLaws(8, EIGHT);
        Due.wrongLaws(3, EIGHT + "^i:1 over 1 below 1;");
        Due.wrongLaws(3, EIGHT + " ^i");
        Due.wrongLaws(3, EIGHT + "^a:1 over 1 below 1;");
        Due.wrongLaws(2, EIGHT + "^hour:1 over 1 below 1;");
        Due.wrongLaws(1, EIGHT + "^I:1 over 1 below 1;");
    }

    private static void faultFour() {
        Due.says(TERMS, "4 a NAME of a LAW there already");
        Due.wrongLaws(4, "l:1 over 1 below 1;^l:1 over 1 below 1;");
        Due.wrongLaws(4, "k:1 over 1 below 1;l:1 over 1 below 1;^k");
        Due.wrongLaws(4, "abcdefgh:1 over 1 below 1;^abcdefgh:1 over 1 below 1;");
        Due.rightLaws(3, "abcdefgh:1 over 1 below 1;abcdefgi:1 over 1 below 1;abcdefg:1 over 1 below 1;");
    }

    private static void faultFive() {
        Due.says(TERMS, "5 brackets within six others (at the one that opens)");
        Due.rightLaws(1, "l:(((((1))))) over 1 below 1;");
        Due.rightLaws(1, "l:((((((1)))))) over 1 below 1;");
        Due.wrongLaws(5, "l:((((((^(1))))))) over 1 below 1;");
        Due.wrongLaws(5, "l:((((((^(((((((((");
        Due.wrongLaws(5, "l:((((((1+2*^(3))))))) over 1 below 1;");
        Due.wrongLaws(5, "l:((((((1)))))+(((((^(1)))))) over 1 below 1;");
        Due.rightLaws(1, "l:((((((1))))))*((((((1))))))-((((((1))))))+(1)+(1)+(1)+(1) over 1 below 1;");
        Due.rightLaws(2, "l:((((((1)))))) over 1 below 1;m:((((((1)))))) over 1 below 1;");
        Due.wrongLaws(2, "l:((((((1))))))^) over 1 below 1;");
    }

    private static void faultSix() {
        Due.says(TERMS, "6 a NUMBER that can't be: of over 1 to 24, of below 0 to 9,999.");
        Due.wrongLaws(6, "l:1 over ^0 below 1;");
        Due.rightLaws(1, "l:1 over 1 below 1;");
        Due.rightLaws(1, "l:1 over 24 below 1;");
        Due.wrongLaws(6, "l:1 over ^25 below 1;");
        Due.wrongLaws(6, "l:1 over ^9999 below 1;");
        Due.rightLaws(1, "l:1 over 1 below 0;");
        Due.rightLaws(1, "l:1 over 1 below 9999;");
        Due.wrongLaws(1, "l:1 over 1 below ^10000;");
    }

    // ---- what they do

    private static void lawsInPlace() {
        Due.says(TERMS, "LAWS that are taken stand in place of those ahead.");
        FlueHouse x = Due.rightLaws(2, "k:1 over 1 below 1;l:1 over 1 below 1;");
        Due.fine(x, "laws()", Due.laws(x, "l:0 over 1 below 1;"), 1);
        Due.fine(x, "the new law", x.broken(0, 0), 0);
        Due.refused(x, "no second law", x.broken(1, 0), 1);
        Due.fine(x, "laws(0)", x.laws(0), 0);
        Due.refused(x, "no law", x.broken(0, 0), 1);
        Due.fine(x, "a plant leaves the laws", Due.laws(x, EIGHT), 8);
        Due.plant(x, CYCLONE);
        Due.fine(x, "the eighth law", x.broken(7, 0), 1);
        String longest = "l:" + "hour+".repeat(112) + "1 over 1 below 113;";
        for (int i = 0; i < 6; i++) {
            Due.fine(x, "a long law, time and again", Due.laws(x, longest), 1);
            Due.fine(x, "in hour 0 it is 1", x.broken(0, 0), 0);
            Due.fine(x, "in hour 1 it is 113", x.broken(0, 1), 1);
        }
    }

    private static void roundOn() {
        Due.says(TERMS, "SUMS are of 64 bits, round on.");
        FlueHouse x = Due.rightLaws(8, "a:" + QUARTER + "+(" + QUARTER + "-1) over 1 below 0;"
            + "b:" + QUARTER + "+" + QUARTER + " over 1 below 0;"
            + "c:0-" + QUARTER + "-" + QUARTER + " over 1 below 0;"
            + "d:0-" + QUARTER + "-" + QUARTER + "-1 over 1 below 9999;"
            + "e:" + QUARTER + "*2 over 1 below 0;f:" + QUARTER + "*4 over 1 below 0;"
            + "g:" + QUARTER + "*4 over 1 below 1;h:" + QUARTER + "*4+7 over 1 below 7;");
        Due.fine(x, "the most that there is", x.broken(0, 0), 1);
        Due.fine(x, "one more is the least that there is", x.broken(1, 0), 0);
        Due.fine(x, "the least that there is", x.broken(2, 0), 0);
        Due.fine(x, "one less is the most that there is", x.broken(3, 0), 1);
        Due.fine(x, "a product that goes round to the least", x.broken(4, 0), 0);
        Due.fine(x, "a product that goes round to 0", x.broken(5, 0), 1);
        Due.fine(x, "it is below 1", x.broken(6, 0), 0);
        Due.fine(x, "and 7 more is 7", x.broken(7, 0), 1);
        x = Due.rightLaws(4, "a:" + QUARTER + " over 1 below 0;b:" + QUARTER + " over 2 below 0;c:" + QUARTER
            + " over 4 below 0;d:" + QUARTER + " over 5 below 9999;");
        Due.fine(x, "one hour", x.broken(0, 5), 1);
        Due.fine(x, "two hours together go round to the least", x.broken(1, 5), 0);
        Due.fine(x, "four hours together go round to 0", x.broken(2, 5), 1);
        Due.fine(x, "five hours together are as one", x.broken(3, 5), 1);
        Due.fine(x, "the first breach", x.breach(1), 0);
        x = Due.rightLaws(1, "a:" + QUARTER + "*(hour-3) over 2 below 0;");
        // 2 and 3: below 0; 3 and 4: a quarter; 4 and 5: three quarters of the round, so below 0.
        Due.fine(x, "hours 2 and 3", x.broken(0, 3), 0);
        Due.fine(x, "hours 3 and 4", x.broken(0, 4), 1);
        Due.fine(x, "hours 4 and 5", x.broken(0, 5), 0);
        Due.fine(x, "the first breach, round and round", x.breach(0), 2);
    }

    private static void notBelow() {
        Due.says(TERMS, "A LAW is BROKEN in an HOUR, if its SUMS of so many HOURS as over says, that one the last, "
            + "are together not below so much as below says times so many");
        FlueHouse x = Due.rightPlant(1, CYCLONE);
        x.row(0, 9, 0, 9, 0);
        x.row(0, 10, 0, 10, 0);
        x.row(0, 11, 0, 11, 0);
        Due.laws(x, "a:fine over 1 below 10;b:fine over 3 below 10;c:fine over 3 below 7;d:fine over 3 below 11;"
            + "e:fine over 1 below 9999;f:fine over 24 below 1;g:fine over 24 below 2;h:0-fine over 1 below 0;");
        Due.fine(x, "9 is below 10", x.broken(0, 9), 0);
        Due.fine(x, "10 is not below 10", x.broken(0, 10), 1);
        Due.fine(x, "11 is not below 10", x.broken(0, 11), 1);
        Due.fine(x, "0, 9 and 10 are below 30", x.broken(1, 10), 0);
        Due.fine(x, "9, 10 and 11 are not below 30", x.broken(1, 11), 1);
        Due.fine(x, "10, 11 and 0 are below 30", x.broken(1, 12), 0);
        Due.fine(x, "10, 11 and 0 are not below 21", x.broken(2, 12), 1);
        Due.fine(x, "11, 0 and 0 are below 21", x.broken(2, 13), 0);
        Due.fine(x, "30 are below 33", x.broken(3, 11), 0);
        Due.fine(x, "10 is below 9999", x.broken(4, 10), 0);
        Due.fine(x, "30 in 24 hours are not below 24", x.broken(5, 32), 1);
        Due.fine(x, "21 in 24 hours are below 24", x.broken(5, 33), 0);
        Due.fine(x, "30 in 24 hours are below 48", x.broken(6, 32), 0);
        Due.fine(x, "-10 is below 0", x.broken(7, 10), 0);
        Due.fine(x, "0 is not below 0", x.broken(7, 12), 1);
        x.row(0, 20, 0, 9998, 0);
        x.row(0, 21, 0, 9999, 0);
        Due.fine(x, "9998 is below 9999", x.broken(4, 20), 0);
        Due.fine(x, "9999 is not", x.broken(4, 21), 1);
    }

    private static void fewerAhead() {
        Due.says(TERMS, "in HOURS with fewer ahead it is not.");
        FlueHouse x = Due.rightLaws(4, "a:1 over 1 below 0;b:1 over 2 below 0;c:1 over 24 below 0;d:9999 over 24 below 0;");
        Due.fine(x, "over 1 in hour 0", x.broken(0, 0), 1);
        Due.fine(x, "over 2 in hour 0", x.broken(1, 0), 0);
        Due.fine(x, "over 2 in hour 1", x.broken(1, 1), 1);
        Due.fine(x, "over 24 in hour 22", x.broken(2, 22), 0);
        Due.fine(x, "over 24 in hour 23", x.broken(2, 23), 1);
        Due.fine(x, "over 24 in hour 22, much", x.broken(3, 22), 0);
        Due.fine(x, "over 24 in hour 47", x.broken(2, 47), 1);
    }

    private static void firstBreach() {
        Due.says(TERMS, "BREACH: the first HOUR in which any is BROKEN");
        FlueHouse x = Due.rightPlant(1, CYCLONE);
        Due.laws(x, "a:hour over 1 below 47;b:fine over 1 below 5;c:fine over 1 below 5;");
        Due.fine(x, "the last hour", x.breach(0), 47);
        Due.fine(x, "its law", x.breach(1), 0);
        x.row(0, 46, 0, 4, 0);
        Due.fine(x, "4 is below 5", x.breach(0), 47);
        x.row(0, 46, 0, 5, 0);
        Due.fine(x, "a later law in an earlier hour", x.breach(0), 46);
        FlueHouse last = Due.rightPlant(1, CYCLONE);
        Due.laws(last, "a:fine over 1 below 5;");
        last.row(0, 47, 0, 5, 0);
        Due.fine(last, "what is up in the last hour", last.breach(0), 47);
        Due.says(TERMS, "of one HOUR the first LAW.");
        Due.fine(x, "b ahead of c", x.breach(1), 1);
        x.row(0, 47, 0, 5, 0);
        x.row(0, 46, 0, 0, 0);
        Due.fine(x, "all three in 47", x.breach(0), 47);
        Due.fine(x, "a ahead of b and c", x.breach(1), 0);
        x = Due.rightLaws(2, "a:1 over 3 below 1;b:1 over 2 below 1;");
        Due.fine(x, "over 2 ahead of over 3", x.breach(0), 1);
        Due.fine(x, "its law", x.breach(1), 1);
        x = Due.rightLaws(1, "a:1 over 24 below 1;");
        Due.fine(x, "over 24", x.breach(0), 23);
        x = Due.rightLaws(1, "a:hour over 1 below 0;");
        Due.fine(x, "the first hour", x.breach(0), 0);
    }

    // ---- the promises

    private static void firstBytes() {
        Due.says("Promise 9", "The first n bytes of the tape (which is empty then) are the LAWS: how many");
        FlueHouse x = new FlueHouse();
        Due.feed(x, EIGHT);
        Due.fine(x, "laws(38): the first two alone", x.laws(38), 2);
        Due.refused(x, "laws(1): all of the tape is gone", x.laws(1), 1);
        Due.feed(x, "?");
        Due.fine(x, "laws(0) of a tape that is not empty", x.laws(0), 0);
        Due.refused(x, "laws(1)", x.laws(1), 1);
        Due.feed(x, "?");
        Due.refused(x, "laws(1) with a fault", x.laws(1), 9);
        Due.refused(x, "plant(1): the tape is empty behind a fault, too", x.plant(1), 1);
        Due.is("feed() behind it", x.feed(0, 0, 0, 0, 0), 20);
    }

    private static void statusesOfLaws() {
        Due.says("Promise 9", "(1; 9: the LAWS stay)");
        FlueHouse x = Due.rightLaws(2, "a:1 over 1 below 1;b:2 over 1 below 3;");
        Due.feed(x, "c:1 over 1 below 2;");
        for (int n : new int[] {-1, 21, Integer.MIN_VALUE, Integer.MAX_VALUE}) {
            Due.refused(x, "laws(" + n + ")", x.laws(n), 1);
        }
        Due.refused(x, "laws(20): a 0 behind the text", x.laws(20), 9);
        Due.refused(x, "a fault in the last", Due.laws(x, "a:5 over 1 below 9;b:5 over 1 below 1;c:0 over 1 below 1;?"), 9);
        Due.fine(x, "the first law stays", x.broken(0, 0), 1);
        Due.fine(x, "the second law stays", x.broken(1, 0), 0);
        Due.refused(x, "there is no third", x.broken(2, 0), 1);
        Due.feed(x, "c:1 over 1 below 2;");
        Due.fine(x, "laws(19) of 20 bytes", x.laws(19), 1);
    }

    private static void statusesOfBroken() {
        Due.says("Promise 22", "Whether a LAW is BROKEN in an HOUR: 1 or 0 (1).");
        FlueHouse x = Due.rightLaws(8, EIGHT);
        Due.numberWithin(x, "broken() of law", 0, 7, v -> x.broken(v, 0));
        Due.numberWithin(x, "broken() in hour", 0, 47, v -> x.broken(7, v));
        Due.fine(x, "1", x.broken(7, 47), 1);
        FlueHouse y = Due.rightLaws(1, "l:0 over 1 below 1;");
        Due.fine(y, "0", y.broken(0, 47), 0);
        Due.numberWithin(y, "broken() of law", 0, 0, v -> y.broken(v, 0));
    }

    private static void statusesOfBreach() {
        Due.says("Promise 23", "BREACH, what 0: its HOUR, 1: the LAW (1; 6: none).");
        FlueHouse x = Due.rightLaws(2, "k:hour over 1 below 48;l:hour over 1 below 47;");
        Due.numberWithin(x, "breach() what", 0, 1, x::breach);
        Due.fine(x, "its hour", x.breach(0), 47);
        Due.fine(x, "the law", x.breach(1), 1);
        Due.laws(x, "k:hour over 1 below 48;");
        Due.refused(x, "no hour", x.breach(0), 6);
        Due.refused(x, "no law", x.breach(1), 6);
        Due.refused(x, "1 ahead of 6", x.breach(2), 1);
        Due.refused(x, "1 ahead of 6", x.breach(-1), 1);
        x.laws(0);
        Due.refused(x, "without laws", x.breach(0), 6);
    }
}
