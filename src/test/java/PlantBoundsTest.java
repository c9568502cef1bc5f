import java.util.List;

/** The edges of the tape and of a plant's text: promises 7, 8, 10, 11, 12. */
public final class PlantBoundsTest {
    private static final String TERMS = "Terms";
    private static final String A = "cyclone a holds 1,1,1,1;";
    private static final String B = "cyclone b holds 1,1,1,1;";
    private static final String AB = A + B;
    private static final String[] WORDS = {"cyclone", "plates", "cloth", "spray", "join", "works", "holds", "layer",
        "flies", "full", "warm", "to", "at", "share", "stack"};

    private PlantBoundsTest() {
    }

    public static void main(String[] args) {
        twentyBytes();
        atMostOnTheTape();
        longestText();
        blanksAndSigns();
        asLongAsTheyGo();
        letters();
        digits();
        anyNumberOfParts();
        everyPart();
        list();
        ways();
        names();
        numbering();
        fullHouse();
        notJoined();
        hundredthsOfEachSize();
        firstFault();
        faultOne();
        faultTwo();
        faultThreeThere();
        faultThreeAhead();
        faultFour();
        faultFive();
        faultSix();
        faultSeven();
        plantInPlace();
        rowsAndEventsGone();
        firstBytes();
        statusesOfPlant();
        faultTold();
        cleanerTold();
        worksTold();
        Due.end();
    }

    private static String blanks(int many) {
        return " ".repeat(many);
    }

    private static String cyclones(String letters) {
        StringBuilder s = new StringBuilder();
        for (char c : letters.toCharArray()) {
            s.append("cyclone ").append(c).append(" holds 1,1,1,1;");
        }
        return s.toString();
    }

    // ---- promise 7

    private static void twentyBytes() {
        Due.says("Promise 7", "Twenty bytes come behind those on the tape, the highest of each int first: how many it has");
        FlueHouse x = new FlueHouse();
        // "clot", "h ab", "cdef", "gh h", "olds", and behind them " 1,2", ",3,4", " ful", "l 99", "99;\n"
        Due.is("the first feed()", x.feed(0x636c6f74, 0x68206162, 0x63646566, 0x67682068, 0x6f6c6473), 20);
        Due.is("the second feed()", x.feed(0x20312c32, 0x2c332c34, 0x2066756c, 0x6c203939, 0x39393b0a), 40);
        Due.fine(x, "plant(40)", x.plant(40), 1);
        for (int size = 0; size < 4; size++) {
            Due.fine(x, "what it holds", x.cleaner(0, 2 + size), 1 + size);
        }
        Due.is("feed() of bytes above 127", x.feed(0x80ff80ff, -1, -1, -1, -1), 20);
        Due.refused(x, "plant(20)", x.plant(20), 9);
        Due.is("no token begins so", x.fault(0), 1);
    }

    private static void atMostOnTheTape() {
        Due.says("Promise 7", "NONE if there would be more than 600.");
        FlueHouse x = new FlueHouse();
        String text = blanks(600 - A.length()) + A;
        Due.feed(x, text.substring(0, 580));
        Due.is("the 30th feed()", x.feed(word(text, 580), word(text, 584), word(text, 588), word(text, 592),
            word(text, 596)), 600);
        Due.is("the 31st feed()", x.feed(0x3f3f3f3f, 0, 0, 0, 0), FlueHouse.NONE);
        Due.is("the 32nd feed()", x.feed(0x3f3f3f3f, 0, 0, 0, 0), FlueHouse.NONE);
        Due.refused(x, "plant(601): there are no more", x.plant(601), 1);
        Due.fine(x, "plant(600): the tape is as it was", x.plant(600), 1);
        Due.is("feed() behind it", x.feed(0, 0, 0, 0, 0), 20);
    }

    private static int word(String text, int from) {
        int four = 0;
        for (int i = from; i < from + 4; i++) {
            four = four << 8 | text.charAt(i);
        }
        return four;
    }

    // ---- the text

    private static void longestText() {
        Due.says(TERMS, "A PLANT is a TEXT of at most 600 bytes.");
        Due.rightPlant(1, A + blanks(576));
        Due.rightPlant(1, blanks(576) + A);
        Due.wrongPlant(2, blanks(577) + A.substring(0, 23) + "^");
        StringBuilder most = new StringBuilder(cyclones("abcdefgh"));
        while (most.length() < 558) {
            most.append('\n');
        }
        String ways = "works abcdefgh at h;join g to h share 100;";
        Due.is("bytes", most.length() + ways.length(), 600);
        Due.rightPlant(8, most + ways);
    }

    private static void blanksAndSigns() {
        Due.says(TERMS, "between them blanks (10, 32)");
        Due.rightPlant(1, "cyclone\na\n\nholds \n 1 , 1\n,1,1 ;\n");
        Due.rightPlant(1, " \n" + A + " \n");
        for (int b = 0; b < 256; b++) {
            char c = (char) b;
            boolean token = (c >= 'a' && c <= 'z') || (c >= '0' && c <= '9') || c == ';' || c == ',';
            if (c == '^' || token) {
                continue;
            }
            if (b == 10 || b == 32) {
                Due.rightPlant(1, "cyclone" + c + "a holds 1,1,1,1;" + c);
            } else {
                Due.wrongPlant(1, "cyclone^" + c + "a holds 1,1,1,1;");
                Due.wrongPlant(1, A + "^" + c);
            }
        }
        Due.says(TERMS, "SIGNS ; ,");
        Due.wrongPlant(2, "cyclone^;a holds 1,1,1,1;");
        Due.wrongPlant(2, "cyclone^,a holds 1,1,1,1;");
        for (char c : ":+-*()".toCharArray()) {
            Due.wrongPlant(1, "cyclone^" + c + "a holds 1,1,1,1;");
        }
    }

    private static void asLongAsTheyGo() {
        Due.says(TERMS, "TOKENS, as long as they go");
        Due.wrongPlant(2, "^cyclonea holds 1,1,1,1;");
        Due.wrongPlant(2, "cyclone a ^hol ds 1,1,1,1;");
        Due.wrongPlant(2, "cyclone a holds 1 ^0,1,1,1;");
        Due.rightPlant(1, "cyclone a holds1,1,1,1;");
        FlueHouse x = Due.rightPlant(1, "plates a holds10,1,1,1layer5flies6;");
        Due.fine(x, "10 is one number", x.cleaner(0, 2), 10);
    }

    private static void letters() {
        Due.says(TERMS, "WORDS (small letters)");
        Due.rightPlant(2, "cloth abcdefgh holds 1,1,1,1 full 5;cloth ijklmnop holds 1,1,1,1 full 5;");
        Due.rightPlant(2, "cloth qrstuvwx holds 1,1,1,1 full 5;cloth yz holds 1,1,1,1 full 5;");
        Due.wrongPlant(1, "cyclone ^A holds 1,1,1,1;");
        Due.wrongPlant(1, "cyclone ^Z holds 1,1,1,1;");
        Due.wrongPlant(1, "cyclone ^` holds 1,1,1,1;");
        Due.wrongPlant(1, "cyclone ^{ holds 1,1,1,1;");
        Due.wrongPlant(1, "cyclone a^A holds 1,1,1,1;");
        Due.wrongPlant(1, "^Cyclone a holds 1,1,1,1;");
    }

    private static void digits() {
        Due.says(TERMS, "NUMBERS (1 to 4 digits)");
        FlueHouse x = Due.rightPlant(1, "cyclone a holds 7,07,007,0007;");
        for (int size = 0; size < 4; size++) {
            Due.fine(x, "7 with 0s ahead", x.cleaner(0, 2 + size), 7);
        }
        x = Due.rightPlant(3, "cyclone a holds 0,1,2,3;cyclone b holds 4,5,6,7;cyclone c holds 8,9,10,98;");
        for (int v = 0; v < 11; v++) {
            Due.fine(x, "the number " + v, x.cleaner(v / 4, 2 + v % 4), v);
        }
        Due.wrongPlant(1, "cyclone a holds ^00007,1,1,1;");
        Due.wrongPlant(1, "cyclone a holds ^/,1,1,1;");
        Due.wrongPlant(1, "cyclone a holds ^:,1,1,1;");
    }

    private static void anyNumberOfParts() {
        Due.says(TERMS, "TEXT: {PART}.");
        Due.rightPlant(0, "");
        Due.rightPlant(0, " ");
        Due.rightPlant(0, "\n \n");
        Due.rightPlant(1, A);
        Due.rightPlant(2, AB);
        Due.wrongPlant(2, "^;");
        Due.wrongPlant(2, A + "^;");
        Due.wrongPlant(2, "^a");
        Due.wrongPlant(2, "^1");
        for (int w = 6; w < WORDS.length; w++) {
            Due.wrongPlant(2, "^" + WORDS[w] + " a holds 1,1,1,1;");
        }
    }

    /** Each form cut, with each of its tokens left out, and with each of them twice. */
    private static void everyPart() {
        Due.says(TERMS, "PART: cyclone NAME holds LIST ;");
        form(1, "", "cyclone c holds 1 , 2 , 3 , 4 ;");
        Due.says(TERMS, "or plates NAME holds LIST layer NUMBER flies NUMBER ;");
        form(1, "", "plates c holds 1 , 2 , 3 , 4 layer 5 flies 6 ;");
        Due.says(TERMS, "or cloth NAME holds LIST full NUMBER ;");
        form(1, "", "cloth c holds 1 , 2 , 3 , 4 full 5 ;");
        Due.says(TERMS, "or spray NAME holds LIST warm NUMBER ;");
        form(1, "", "spray c holds 1 , 2 , 3 , 4 warm 5 ;");
        Due.says(TERMS, "or join NAME to WAY {, WAY} ;");
        form(2, AB, "join a to b share 40 , stack share 60 ;");
        Due.says(TERMS, "or works NAME at NAME ;");
        form(2, AB, "works w at b ;");
        Due.wrongPlant(2, "cyclone c^;");
        Due.wrongPlant(2, "plates c ^layer 5 flies 6;");
        Due.wrongPlant(2, "cloth c ^full 5;");
        Due.wrongPlant(2, "spray c ^warm 5;");
        Due.wrongPlant(2, "cyclone c holds 1,2,3,4 ^layer 5;");
        Due.wrongPlant(2, "cyclone c holds 1,2,3,4 ^full 5;");
        Due.wrongPlant(2, "plates c holds 1,2,3,4 ^full 5 flies 6;");
        Due.wrongPlant(2, "plates c holds 1,2,3,4 ^flies 6 layer 5;");
        Due.wrongPlant(2, "plates c holds 1,2,3,4 layer 5^;");
        Due.wrongPlant(2, "cloth c holds 1,2,3,4 ^layer 5;");
        Due.wrongPlant(2, "cloth c holds 1,2,3,4 ^warm 5;");
        Due.wrongPlant(2, "spray c holds 1,2,3,4 ^full 5;");
        Due.wrongPlant(2, "spray c holds 1,2,3,4 warm 5 ^flies 6;");
    }

    private static void form(int cleaners, String ahead, String part) {
        Due.rightPlant(cleaners, ahead + part);
        List<String> tokens = List.of(part.split(" "));
        for (int i = 0; i < tokens.size(); i++) {
            String start = ahead + String.join(" ", tokens.subList(0, i));
            String token = tokens.get(i);
            String rest = String.join(" ", tokens.subList(i + 1, tokens.size()));
            if (i > 0) {
                Due.wrongPlant(2, start + "^");
                Due.wrongPlant(2, start + "  ^");
            }
            Due.wrongPlant(2, start + " ^" + rest);
            Due.wrongPlant(2, start + " " + token + " ^" + token + " " + rest);
            for (int k = i + 2; k < tokens.size(); k++) {
                FlueHouse x = new FlueHouse();
                String text = start + " " + String.join(" ", tokens.subList(k, tokens.size()));
                Due.refused(x, "plant() of " + text, Due.plant(x, text), 9);
            }
        }
    }

    private static void list() {
        Due.says(TERMS, "LIST: NUMBER , NUMBER , NUMBER , NUMBER");
        Due.wrongPlant(2, "cyclone a holds ^;");
        Due.wrongPlant(2, "cyclone a holds 1^;");
        Due.wrongPlant(2, "cyclone a holds 1,1,1^;");
        Due.wrongPlant(2, "cyclone a holds 1,1,1,^;");
        Due.rightPlant(1, "cyclone a holds 1,1,1,1;");
        Due.wrongPlant(2, "cyclone a holds 1,1,1,1^,1;");
        Due.wrongPlant(2, "cyclone a holds ^,1,1,1;");
        Due.wrongPlant(2, "cyclone a holds 1,^a,1,1;");
    }

    private static void ways() {
        Due.says(TERMS, "WAY: NAME share NUMBER, or stack share NUMBER.");
        FlueHouse x = Due.rightPlant(2, AB + "join a to b share 100;");
        Due.fine(x, "one way to a cleaner", x.cleaner(0, 1), 1);
        x = Due.rightPlant(2, AB + "join a to stack share 100;");
        Due.fine(x, "one way to the stack", x.cleaner(0, 1), 1);
        Due.wrongPlant(2, AB + "join a to ^cloth share 100;");
        Due.wrongPlant(2, AB + "join a to ^7 share 100;");
        Due.wrongPlant(2, AB + "join a to b ^stack share 100;");
        Due.says(TERMS, "({ } any number of times.)");
        Due.wrongPlant(2, AB + "join a to ^;");
        Due.wrongPlant(2, AB + "join a to b share 100,^;");
        x = Due.rightPlant(8, cyclones("abcdefgh") + "join a to b share 1,c share 1,d share 1,e share 1,f share 1,"
            + "g share 1,h share 1,stack share 93;");
        Due.fine(x, "eight ways", x.cleaner(0, 1), 8);
        x = Due.rightPlant(8, cyclones("abcdefgh") + "join g to stack share 50,h share 50;join h to stack share 100;");
        Due.fine(x, "two ways", x.cleaner(6, 1), 2);
        Due.fine(x, "one way of the last", x.cleaner(7, 1), 1);
    }

    private static void names() {
        Due.says(TERMS, "NAME: a WORD of 1 to 8 letters that is none of cyclone, plates, cloth, spray, join, works, "
            + "holds, layer, flies, full, warm, to, at, share, stack.");
        Due.rightPlant(1, "cyclone z holds 1,1,1,1;");
        Due.rightPlant(1, "cyclone zzzzzzzz holds 1,1,1,1;");
        Due.wrongPlant(2, "cyclone ^zzzzzzzzz holds 1,1,1,1;");
        Due.wrongPlant(2, "cyclone ^zzzzzzzzzzzzzzzzz holds 1,1,1,1;");
        Due.wrongPlant(2, "cyclone ^cycloness holds 1,1,1,1;");
        Due.wrongPlant(2, AB + "works ^zzzzzzzzz at a;");
        Due.wrongPlant(2, AB + "works w at ^zzzzzzzzz;");
        Due.wrongPlant(2, AB + "join ^zzzzzzzzz to stack share 100;");
        Due.wrongPlant(2, AB + "join a to ^zzzzzzzzz share 100;");
        Due.rightPlant(2, "cyclone abcdefgh holds 1,1,1,1;cyclone abcdefgi holds 1,1,1,1;"
            + "works abcdefg at abcdefgh;join abcdefgh to abcdefgi share 100;");
        for (String word : WORDS) {
            Due.wrongPlant(2, AB + "cyclone ^" + word + " holds 1,1,1,1;");
            Due.wrongPlant(2, AB + "works ^" + word + " at a;");
            Due.wrongPlant(2, AB + "works w at ^" + word + ";");
            Due.wrongPlant(2, AB + "join ^" + word + " to stack share 100;");
            if (!word.equals("stack")) {
                Due.wrongPlant(2, AB + "join a to ^" + word + " share 100;");
            }
            String shorter = word.substring(0, word.length() - 1);
            Due.rightPlant(2, "cyclone " + word + "s holds 1,1,1,1;cyclone " + shorter + " holds 1,1,1,1;");
        }
        for (String word : new String[] {"fine", "small", "coarse", "grit", "warmth", "hour", "over", "below"}) {
            Due.rightPlant(1, "cyclone " + word + " holds 1,1,1,1;");
        }
    }

    private static void numbering() {
        Due.says(TERMS, "CLEANERS are numbered as they stand, at most 8");
        FlueHouse x = Due.rightPlant(3, "spray c holds 5,0,0,0 warm 1;works w at c;cloth a holds 6,0,0,0 full 1;"
            + "join c to a share 100;works v at a;plates b holds 7,0,0,0 layer 1 flies 1;works u at c;");
        int[] sorts = {3, 2, 1};
        for (int c = 0; c < 3; c++) {
            Due.fine(x, "the sort of " + c, x.cleaner(c, 0), sorts[c]);
            Due.fine(x, "what it holds", x.cleaner(c, 2), 5 + c);
        }
        int[] goals = {0, 1, 0};
        for (int w = 0; w < 3; w++) {
            Due.fine(x, "where the works lead", x.works(w), goals[w]);
        }
        x = Due.rightPlant(8, cyclones("abcdefgh"));
        Due.fine(x, "the eighth", x.cleaner(7, 0), 0);
        Due.refused(x, "the ninth", x.cleaner(8, 0), 1);
        Due.wrongPlant(6, cyclones("abcdefgh") + "cyclone ^i holds 1,1,1,1;");
        Due.says(TERMS, "WORKS likewise, at most 4.");
        x = Due.rightPlant(2, AB + "works p at b;works q at a;works r at b;works s at a;");
        for (int w = 0; w < 4; w++) {
            Due.fine(x, "works " + w, x.works(w), 1 - w % 2);
        }
        Due.refused(x, "the fifth", x.works(4), 1);
        Due.wrongPlant(6, AB + "works p at b;works q at a;works r at b;works s at a;works ^t at a;");
    }

    private static void fullHouse() {
        Due.says(TERMS, "What it lets pass goes by its WAYS, so many hundredths each");
        FlueHouse x = Due.rightPlant(8, cyclones("abcdefgh").replace("1,1,1,1", "0,0,0,0")
            + "join a to b share 10,c share 10,d share 10,e share 10,f share 10,g share 10,h share 10,stack share 30;"
            + "works p at a;works q at h;");
        x.row(0, 0, 0, 1000, 0);
        for (int c = 1; c < 8; c++) {
            Due.fine(x, "what comes to " + c, x.at(c, 0, 0, 0), 100);
        }
        Due.fine(x, "all is up", x.up(0, 0), 1000);
        Due.says(TERMS, "WORKS: their dust comes to a CLEANER.");
        x.row(1, 0, 0, 7, 0);
        Due.fine(x, "to h by its works, too", x.at(7, 0, 0, 0), 107);
        Due.fine(x, "none of it to a", x.at(0, 0, 0, 0), 1000);
    }

    private static void notJoined() {
        Due.says(TERMS, "a CLEANER that is not joined has one WAY, all to the stack.");
        FlueHouse x = Due.rightPlant(2, "cyclone a holds 0,0,0,0;cyclone b holds 0,0,0,0;works w at a;");
        x.row(0, 0, 3, 9999, 0);
        Due.fine(x, "ways of a", x.cleaner(0, 1), 1);
        Due.fine(x, "ways of b", x.cleaner(1, 1), 1);
        Due.fine(x, "all is up", x.up(0, 3), 9999);
        Due.fine(x, "nothing comes to b", x.at(1, 0, FlueHouse.NONE, 0), 0);
    }

    private static void hundredthsOfEachSize() {
        Due.says(TERMS, "A CLEANER holds of each SIZE so many hundredths (the LIST).");
        FlueHouse x = Due.rightPlant(1, "cyclone a holds 0,1,99,100;works w at a;");
        for (int size = 0; size < 4; size++) {
            x.row(0, 0, size, 200, 0);
        }
        int[] held = {0, 2, 198, 200};
        for (int size = 0; size < 4; size++) {
            Due.fine(x, "held of size " + size, x.at(0, 0, size, 1), held[size]);
        }
    }

    // ---- the faults

    private static void firstFault() {
        Due.says(TERMS, "FAULTS, the first along the text (of one TOKEN the least kind)");
        Due.wrongPlant(4, "cyclone a holds 1,^101,1,1;?");
        Due.wrongPlant(1, "cyclone a holds 1,^?,101,1;");
        Due.wrongPlant(3, A + "cyclone ^a holds 101,1,1,1;");
        Due.wrongPlant(2, A + "cyclone ^stack holds 101,1,1,1;");
        Due.wrongPlant(7, A + "join a to stack share 1^;?");
        Due.wrongPlant(5, A + "join a to ^a share 101;");
        Due.wrongPlant(2, AB + "join a to b share 1 ^stack share 2;");
        Due.wrongPlant(3, cyclones("abcdefgh") + "cyclone ^h holds 1,1,1,1;");
        Due.wrongPlant(2, cyclones("abcdefgh") + "cyclone ^at holds 1,1,1,1;");
        Due.wrongPlant(1, cyclones("abcdefgh") + "cyclone ^12345 holds 1,1,1,1;");
        String four = AB + "works p at b;works q at a;works r at b;works s at a;";
        Due.wrongPlant(3, four + "works ^s at a;");
        Due.wrongPlant(3, four + "works ^b at a;");
        Due.wrongPlant(2, four + "works ^join at a;");
        Due.wrongPlant(1, "^12345");
        Due.wrongPlant(1, "cyclone ^98765 holds");
    }

    private static void faultOne() {
        Due.says(TERMS, "1 no TOKEN begins so (a NUMBER of 5 digits and more: at its first).");
        Due.rightPlant(1, "cloth a holds 0001,1,1,0100 full 9999;");
        Due.wrongPlant(1, "cloth a holds 1,1,1,1 full ^10000;");
        Due.wrongPlant(1, "cloth a holds 1,1,1,1 full ^00000;");
        Due.wrongPlant(1, "cloth a holds 1,1,1,1 full ^123456789012345678901234567890;");
        Due.wrongPlant(1, "^00001 a holds 1,1,1,1;");
        Due.wrongPlant(2, "^0001 a holds 1,1,1,1;");
        Due.wrongPlant(1, A + "^?");
        Due.wrongPlant(1, "^-1");
    }

    private static void faultTwo() {
        Due.says(TERMS, "2 it can't stand there (the end: the text's length).");
        Due.wrongPlant(2, "cyclone^");
        Due.wrongPlant(2, "cyclone   ^");
        Due.wrongPlant(2, "cyclone a holds 1,1,1,1^");
        Due.wrongPlant(2, "cyclone a holds 1,1,1,1 \n^");
        FlueHouse x = new FlueHouse();
        Due.feed(x, "cyclone a holds 1,1,1,1;;;;;");
        Due.refused(x, "plant(23): the text ends ahead of the ;", x.plant(23), 9);
        Due.is("fault(0)", x.fault(0), 2);
        Due.is("fault(1)", x.fault(1), 23);
        cutAt(AB + "cyclone cde", 57, 57);
        cutAt(A + "join a to stack share 100;", 27, 24);
        cutAt("cyclone a holds 10000", 17, 17);
        cutAt("cyclone a holds 1,1,1,100000", 25, 25);
        Due.wrongPlant(2, "cyclone a holds 1,1,1,1 ^cyclone");
    }

    /** What is on the tape behind the text has no part in it, though a token goes on there. */
    private static void cutAt(String tape, int n, int place) {
        FlueHouse x = new FlueHouse();
        Due.feed(x, tape);
        Due.refused(x, "plant(" + n + ") of " + tape, x.plant(n), 9);
        Due.is("fault(0)", x.fault(0), 2);
        Due.is("fault(1)", x.fault(1), place);
    }

    private static void faultThreeThere() {
        Due.says(TERMS, "3 a NAME of a CLEANER or of WORKS that is there already (of any)");
        String w = AB + "works w at b;";
        Due.wrongPlant(3, w + "cyclone ^a holds 1,1,1,1;");
        Due.wrongPlant(3, w + "plates ^b holds 1,1,1,1 layer 1 flies 1;");
        Due.wrongPlant(3, w + "cloth ^w holds 1,1,1,1 full 1;");
        Due.wrongPlant(3, w + "spray ^w holds 1,1,1,1 warm 1;");
        Due.wrongPlant(3, w + "works ^a at a;");
        Due.wrongPlant(3, w + "works ^b at a;");
        Due.wrongPlant(3, w + "works ^w at a;");
        Due.rightPlant(3, w + "cyclone aa holds 1,1,1,1;works ww at aa;");
    }

    private static void faultThreeAhead() {
        Due.says(TERMS, "a NAME of join, WAY, at that is no CLEANER told ahead.");
        String w = AB + "works w at b;";
        Due.wrongPlant(3, w + "join ^c to stack share 100;");
        Due.wrongPlant(3, w + "join ^c to stack share 100;cyclone c holds 1,1,1,1;");
        Due.wrongPlant(3, w + "join ^w to stack share 100;");
        Due.wrongPlant(3, w + "join a to ^c share 100;");
        Due.wrongPlant(3, w + "join a to ^c share 100;cyclone c holds 1,1,1,1;");
        Due.wrongPlant(3, w + "join a to ^w share 100;");
        Due.wrongPlant(3, w + "join a to b share 50,^c share 50;");
        Due.wrongPlant(3, w + "works v at ^c;");
        Due.wrongPlant(3, w + "works v at ^c;cyclone c holds 1,1,1,1;");
        Due.wrongPlant(3, w + "works v at ^w;");
        Due.wrongPlant(3, w + "works v at ^v;");
        Due.wrongPlant(3, "works w at ^a;" + A);
        Due.rightPlant(2, w + "join b to stack share 100;join a to b share 100;works v at a;");
    }

    private static void faultFour() {
        Due.says(TERMS, "4 a NUMBER that can't be: of a LIST, flies, share 0 to 100");
        for (int size = 0; size < 4; size++) {
            for (int v : new int[] {0, 100}) {
                FlueHouse x = Due.rightPlant(1, "cyclone a holds " + listWith(size, "" + v) + ";");
                Due.fine(x, "what it holds", x.cleaner(0, 2 + size), v);
            }
            Due.wrongPlant(4, "cyclone a holds " + listWith(size, "^101") + ";");
            Due.wrongPlant(4, "spray a holds " + listWith(size, "^9999") + " warm 1;");
            Due.wrongPlant(1, "cloth a holds " + listWith(size, "^10000") + " full 1;");
        }
        Due.rightPlant(1, "plates a holds 1,1,1,1 layer 1 flies 0;");
        Due.rightPlant(1, "plates a holds 1,1,1,1 layer 1 flies 100;");
        Due.wrongPlant(4, "plates a holds 1,1,1,1 layer 1 flies ^101;");
        Due.rightPlant(2, AB + "join a to stack share 0,b share 100;");
        Due.rightPlant(2, AB + "join a to b share 100,stack share 0;");
        Due.wrongPlant(4, AB + "join a to b share ^101;");
        Due.wrongPlant(4, AB + "join a to stack share ^101;");
        Due.wrongPlant(4, AB + "join a to stack share 0,b share ^101;");
        Due.says(TERMS, "layer, full 1 to 9,999");
        Due.wrongPlant(4, "plates a holds 1,1,1,1 layer ^0 flies 1;");
        Due.rightPlant(1, "plates a holds 1,1,1,1 layer 1 flies 1;");
        Due.rightPlant(1, "plates a holds 1,1,1,1 layer 9999 flies 1;");
        Due.wrongPlant(1, "plates a holds 1,1,1,1 layer ^10000 flies 1;");
        Due.wrongPlant(4, "cloth a holds 1,1,1,1 full ^0;");
        Due.rightPlant(1, "cloth a holds 1,1,1,1 full 1;");
        Due.rightPlant(1, "cloth a holds 1,1,1,1 full 9999;");
        Due.wrongPlant(1, "cloth a holds 1,1,1,1 full ^10000;");
        Due.says(TERMS, "warm 0 to 9,999.");
        Due.rightPlant(1, "spray a holds 1,1,1,1 warm 0;");
        Due.rightPlant(1, "spray a holds 1,1,1,1 warm 9999;");
        Due.wrongPlant(1, "spray a holds 1,1,1,1 warm ^10000;");
    }

    private static String listWith(int size, String number) {
        StringBuilder s = new StringBuilder();
        for (int i = 0; i < 4; i++) {
            s.append(i > 0 ? "," : "").append(i == size ? number : "50");
        }
        return s.toString();
    }

    private static void faultFive() {
        String abc = cyclones("abc");
        Due.says(TERMS, "5 the NAME behind join, if that is joined already");
        Due.wrongPlant(5, abc + "join a to b share 100;join ^a to c share 100;");
        Due.wrongPlant(5, abc + "join c to stack share 100;join ^c to stack share 100;");
        Due.rightPlant(3, abc + "join a to b share 100;join b to c share 100;");
        Due.says(TERMS, "a WAY to a CLEANER that does not stand behind it");
        Due.wrongPlant(5, abc + "join b to ^a share 100;");
        Due.wrongPlant(5, abc + "join b to ^b share 100;");
        Due.rightPlant(3, abc + "join b to c share 100;");
        Due.wrongPlant(5, abc + "join b to c share 50,^b share 50;");
        Due.says(TERMS, "or (also stack) that is one of its WAYS already (at its NAME, or stack).");
        Due.wrongPlant(5, abc + "join a to b share 50,^b share 50;");
        Due.wrongPlant(5, abc + "join a to b share 50,c share 0,^b share 50;");
        Due.wrongPlant(5, abc + "join a to b share 0,^b share 100;");
        Due.wrongPlant(5, abc + "join a to stack share 50,^stack share 50;");
        Due.wrongPlant(5, abc + "join a to stack share 0,c share 50,^stack share 50;");
        Due.rightPlant(3, abc + "join a to stack share 50,c share 50;join b to stack share 50,c share 50;");
        Due.wrongPlant(5, cyclones("abcdefgh") + "join a to b share 1,c share 1,d share 1,e share 1,f share 1,"
            + "g share 1,h share 1,stack share 93,^stack share 0;");
    }

    private static void faultSix() {
        Due.says(TERMS, "6 a 9th CLEANER, a fifth of WORKS (at the NAME).");
        String eight = cyclones("abcdefgh");
        Due.rightPlant(8, eight);
        Due.wrongPlant(6, eight + "cyclone ^i holds 1,1,1,1;");
        Due.wrongPlant(6, eight + "plates ^i holds 1,1,1,1 layer 1 flies 1;");
        Due.wrongPlant(6, eight + "cloth ^i holds 1,1,1,1 full 1;");
        Due.wrongPlant(6, eight + "spray ^i");
        String four = "works p at a;works q at a;works r at a;works s at a;";
        Due.rightPlant(8, eight + four + "join a to h share 100;");
        Due.wrongPlant(6, eight + four + "works ^t at a;");
        Due.wrongPlant(6, eight + four + "works ^t");
        Due.wrongPlant(6, eight + four + "cloth ^t");
        Due.rightPlant(1, A + four);
    }

    private static void faultSeven() {
        Due.says(TERMS, "7 shares that are not 100 together (at the ;).");
        Due.wrongPlant(7, AB + "join a to stack share 99^;");
        Due.rightPlant(2, AB + "join a to stack share 100;");
        Due.wrongPlant(7, AB + "join a to stack share 0^;");
        Due.wrongPlant(7, AB + "join a to b share 49,stack share 50 ^;");
        Due.rightPlant(2, AB + "join a to b share 50,stack share 50 ;");
        Due.wrongPlant(7, AB + "join a to b share 50,stack share 51 ^;");
        Due.wrongPlant(7, AB + "join a to b share 100,stack share 100\n^;");
        Due.wrongPlant(7, cyclones("abcdefgh") + "join a to b share 1,c share 1,d share 1,e share 1,f share 1,"
            + "g share 1,h share 1,stack share 92^;");
    }

    // ---- promise 8

    private static void plantInPlace() {
        Due.says(TERMS, "A PLANT that is taken is there in place of that ahead");
        FlueHouse x = Due.rightPlant(2, AB + "works w at b;join a to b share 50,stack share 50;");
        Due.fine(x, "plant()", Due.plant(x, "spray b holds 2,2,2,2 warm 5;"), 1);
        Due.fine(x, "the sort", x.cleaner(0, 0), 3);
        Due.fine(x, "the ways", x.cleaner(0, 1), 1);
        Due.refused(x, "no second cleaner", x.cleaner(1, 0), 1);
        Due.refused(x, "no works", x.works(0), 1);
        Due.fine(x, "an empty plant", x.plant(0), 0);
        Due.refused(x, "no cleaner", x.cleaner(0, 0), 1);
        Due.refused(x, "no works", x.works(0), 1);
        Due.fine(x, "the names are free again", Due.plant(x, AB + "works w at a;"), 2);
        Due.fine(x, "a is not joined", x.cleaner(0, 1), 1);
        String full = cyclones("abcdefgh") + "works p at a;works q at b;works r at c;works s at d;join a to h share 100;";
        for (int i = 0; i < 4; i++) {
            Due.fine(x, "as much as there can be, time and again", Due.plant(x, full), 8);
            Due.refused(x, "with a fault between", Due.plant(x, full + "join a"), 9);
        }
        x = Due.rightPlant(1, "plates p holds 100,0,0,0 layer 1 flies 100;works w at p;");
        for (int i = 0; i < 3; i++) {
            Due.plant(x, "cloth c holds 100,0,0,0 full 50;works w at c;");
            x.row(0, 0, 0, 10, 0);
            x.knock(0, 1, 0);
            Due.fine(x, "plates were there, now a cloth is: nothing flies", x.at(0, 1, 0, 2), 0);
            Due.fine(x, "all is ash", x.at(0, 1, 0, 4), 10);
        }
    }

    private static void rowsAndEventsGone() {
        Due.says(TERMS, "all ROWS and EVENTS are gone then");
        String text = "cloth a holds 100,0,0,0 full 5;works w at a;";
        FlueHouse x = Due.rightPlant(1, text);
        for (int i = 0; i < 100; i++) {
            x.row(0, i % 48, 0, 9, 3);
        }
        for (int i = 0; i < 20; i++) {
            x.off(0, 0, 47, 4);
        }
        x.warmth(5, 8);
        Due.fine(x, "plant()", Due.plant(x, text), 1);
        Due.fine(x, "no rows", x.up(0, 0), 0);
        Due.says(TERMS, "(the latest KNOWN stays)");
        Due.refused(x, "row() known by 3", x.row(0, 0, 0, 7, 3), 5);
        Due.refused(x, "knock() known by 3", x.knock(0, 0, 3), 5);
        Due.fine(x, "row() known by 4", x.row(0, 0, 0, 7, 4));
        Due.fine(x, "it is not off any more", x.at(0, 0, 0, 1), 7);
        Due.fine(x, "room for 199 more rows", roomForRows(x), 199);
        Due.fine(x, "room for 40 events", roomForEvents(x), 40);
        Due.laws(x, "l:warmth over 1 below 8;");
        Due.fine(x, "warmth is no event", x.broken(0, 5), 1);
    }

    private static int roomForRows(FlueHouse x) {
        int many = 0;
        while (many < 300 && x.row(0, 0, 0, 7, 4)) {
            many++;
        }
        Due.is("status() of a row too many", x.status(), 4);
        x.up(0, 0);
        return many;
    }

    private static int roomForEvents(FlueHouse x) {
        int many = 0;
        while (many < 300 && x.knock(0, 0, 4)) {
            many++;
        }
        Due.is("status() of an event too many", x.status(), 4);
        x.up(0, 0);
        return many;
    }

    private static void firstBytes() {
        Due.says("Promise 8", "The first n bytes of the tape (which is empty then) are the PLANT: how many CLEANERS");
        FlueHouse x = new FlueHouse();
        Due.feed(x, AB);
        Due.fine(x, "plant(24): the first part alone", x.plant(24), 1);
        Due.refused(x, "plant(1): all of the tape is gone", x.plant(1), 1);
        Due.is("feed()", x.feed(0x20202020, 0x20202020, 0x20202020, 0x20202020, 0x20202020), 20);
        Due.fine(x, "plant(0) of a tape that is not empty", x.plant(0), 0);
        Due.refused(x, "plant(1)", x.plant(1), 1);
        Due.feed(x, "?");
        Due.refused(x, "plant(1) with a fault", x.plant(1), 9);
        Due.refused(x, "plant(1): the tape is empty behind a fault, too", x.plant(1), 1);
        Due.is("feed() behind it", x.feed(0, 0, 0, 0, 0), 20);
    }

    private static void statusesOfPlant() {
        Due.says("Promise 8", "(1: n below 0, or more than the tape has; 9: the PLANT stays)");
        FlueHouse x = Due.rightPlant(2, AB + "works w at b;");
        x.row(0, 0, 0, 100, 0);
        x.off(1, 0, 0, 0);
        Due.feed(x, A);
        for (int n : new int[] {-1, 41, Integer.MIN_VALUE, Integer.MAX_VALUE}) {
            Due.refused(x, "plant(" + n + ")", x.plant(n), 1);
        }
        Due.fine(x, "the plant stays", x.works(0), 1);
        Due.refused(x, "plant(40): 0s behind the text", x.plant(40), 9);
        Due.fine(x, "the plant stays: works", x.works(0), 1);
        Due.fine(x, "the plant stays: cleaners", x.cleaner(1, 0), 0);
        Due.fine(x, "rows and events stay", x.up(0, 0), 100);
        Due.refused(x, "a fault in the last part", Due.plant(x, "cloth z holds 9,9,9,9 full 9;works y at z;?"), 9);
        Due.fine(x, "the plant stays: its sort", x.cleaner(0, 0), 0);
        Due.fine(x, "the plant stays: what it holds", x.cleaner(0, 2), 1);
        Due.refused(x, "the plant stays: one works", x.works(1), 1);
        Due.feed(x, A);
        Due.fine(x, "plant(24) of 40 bytes", x.plant(24), 1);
    }

    // ---- promises 10 to 12

    private static void faultTold() {
        Due.says("Promise 10", "Of the latest plant() or laws() with STATUS 0 or 9, what 0: the FAULT (0 without one), "
            + "1: its place (NONE without).");
        FlueHouse x = new FlueHouse();
        Due.plant(x, " ?");
        Due.is("fault(0)", x.fault(0), 1);
        Due.is("fault(1)", x.fault(1), 1);
        x.plant(1);
        Due.is("fault(0) behind a plant() with status 1", x.fault(0), 1);
        x.laws(-1);
        Due.is("fault(1) behind a laws() with status 1", x.fault(1), 1);
        Due.laws(x, "l:1 over 25");
        Due.is("fault(0) of laws()", x.fault(0), 6);
        Due.is("fault(1) of laws()", x.fault(1), 9);
        x.plant(0);
        Due.is("fault(0) without one", x.fault(0), 0);
        Due.is("fault(1) without one", x.fault(1), FlueHouse.NONE);
        Due.plant(x, "cyclone ");
        Due.is("fault(0) of plant()", x.fault(0), 2);
        Due.is("fault(1) of plant()", x.fault(1), 8);
        x.laws(0);
        Due.is("fault(0) without one in laws()", x.fault(0), 0);
        Due.is("fault(1) without one in laws()", x.fault(1), FlueHouse.NONE);
        Due.says("Promise 10", "NONE for others, and ahead of any.");
        FlueHouse y = new FlueHouse();
        Due.is("fault(0) ahead of any", y.fault(0), FlueHouse.NONE);
        Due.is("fault(1) ahead of any", y.fault(1), FlueHouse.NONE);
        y.plant(1);
        y.laws(-1);
        Due.is("fault(0) behind status 1 alone", y.fault(0), FlueHouse.NONE);
        Due.plant(y, "?");
        for (int what : new int[] {-1, 2, Integer.MIN_VALUE, Integer.MAX_VALUE}) {
            Due.is("fault(" + what + ")", y.fault(what), FlueHouse.NONE);
        }
        Due.is("fault(0)", y.fault(0), 1);
        Due.is("fault(1)", y.fault(1), 0);
    }

    private static void cleanerTold() {
        Due.says("Promise 11", "Of a CLEANER, what 0: 0 cyclone, 1 plates, 2 cloth, 3 spray; 1: how many WAYS; 2 to 5: "
            + "what it holds of SIZES 0 to 3 (1).");
        FlueHouse x = Due.rightPlant(4, "cyclone a holds 1,2,3,4;plates b holds 5,6,7,8 layer 9 flies 10;"
            + "cloth c holds 11,12,13,14 full 15;spray d holds 16,17,18,100 warm 20;join c to d share 1,stack share 99;");
        int[][] told = {{0, 1, 1, 2, 3, 4}, {1, 1, 5, 6, 7, 8}, {2, 2, 11, 12, 13, 14}, {3, 1, 16, 17, 18, 100}};
        for (int c = 0; c < 4; c++) {
            for (int what = 0; what < 6; what++) {
                Due.fine(x, "cleaner(" + c + ", " + what + ")", x.cleaner(c, what), told[c][what]);
            }
        }
        Due.numberWithin(x, "cleaner() of", 0, 3, v -> x.cleaner(v, 0));
        Due.numberWithin(x, "cleaner() what", 0, 5, v -> x.cleaner(0, v));
    }

    private static void worksTold() {
        Due.says("Promise 12", "The CLEANER to which WORKS lead (1).");
        FlueHouse x = Due.rightPlant(2, AB + "works w at b;works v at a;works u at b;");
        Due.fine(x, "works(0)", x.works(0), 1);
        Due.fine(x, "works(1)", x.works(1), 0);
        Due.numberWithin(x, "works", 0, 2, x::works);
        FlueHouse y = Due.rightPlant(1, A);
        Due.refused(y, "works(0) of a plant without", y.works(0), 1);
    }
}
