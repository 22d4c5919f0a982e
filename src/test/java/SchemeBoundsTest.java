/** Each sentence of term 1 and of promises 1 to 4 that names a boundary: a SCHEME and how it is told. */
public final class SchemeBoundsTest {
    private static final int NONE = Framer.NONE;
    private static final String BLANKS = "        ";

    private SchemeBoundsTest() {
    }

    public static void main(String[] args) throws IllegalAccessException {
        Sentences.run(SchemeBoundsTest.class);
    }

    private static void cannot(String text, int place) {
        Check.fault(text, 2, place);
    }

    private static void misplaced(String text, int place) {
        Check.fault(text, 1, place);
    }

    private static void roles(String text, int... roles) {
        Framer x = Check.made(text);
        Check.due("count(1) by " + text, x.count(1), roles.length);
        for (int f = 0; f < roles.length; f++) {
            Check.due("role(" + f + ") by " + text, x.role(f), roles[f]);
        }
    }

    // ---- term 1: what there is of a scheme

    @Says(at = "T1", value = "LENGTH, 4 to 24 (8 at first): how many BITS a FRAME has")
    static void length() {
        Check.can("", 0, 8);
        Check.can("length 4;", 0, 4);
        Check.can("length 24;", 0, 24);
        cannot("length 3;", 7);
        cannot("length 25;", 7);
        cannot("length 0;", 7);
        cannot("length 999;", 7);
    }

    @Says(at = "T1", value = "ROLES, a row of 2 to 12")
    static void rolesAreTwoToTwelve() {
        Check.can("roles 01;", 1, 2);
        Check.can("roles 010101 010101;", 1, 12);
        Check.can("roles 000000 dddddd;", 1, 12);
        cannot("roles 0;", 0);
        cannot("roles 1;", 0);
        cannot("roles 010101 0101010;", 0);
        cannot("roles 000000 ddddddd;", 0);
        cannot("roles 000000000000 000000000000 000000000000;", 0);
    }

    @Says(at = "T1", value = "ROLES, a row of 2 to 12 (at first 0, 0, 1, 0, 1, 1)")
    static void rolesAtFirst() {
        roles("", 0, 0, 1, 0, 1, 1);
        roles("length 9;", 0, 0, 1, 0, 1, 1);
        Framer x = Check.made("roles 1 1 c 1 d 0 1;");
        x.scheme();
        int[] first = {0, 0, 1, 0, 1, 1};
        for (int f = 0; f < first.length; f++) {
            Check.due("role(" + f + ") told nothing", x.role(f), first[f]);
        }
    }

    @Says(at = "T1", value = "at least two are 0 or 1")
    static void twoAreFixed() {
        roles("roles 0dddddddddd1;", 0, 3, 3, 3, 3, 3, 3, 3, 3, 3, 3, 1);
        roles("roles 11;", 1, 1);
        roles("roles c00;", 2, 0, 0);
        cannot("roles 0ddddddddddd;", 0);
        cannot("roles c1;", 0);
        cannot("roles cd;", 0);
    }

    @Says(at = "T1", value = "at most 6 c")
    static void sixChecks() {
        Check.can("roles 0cccccc1;", 10, 6);
        Check.can("roles 01;", 10, 0);
        cannot("roles 0ccccccc1;", 0);
        cannot("roles 01 ccccc d ccccc;", 0);
    }

    @Says(at = "T1", value = "POLY, 0 to 63 (0)")
    static void poly() {
        Check.can("", 2, 0);
        Check.can("poly 0;", 2, 0);
        Check.can("poly 63;", 2, 63);
        cannot("poly 64;", 5);
        cannot("poly 999;", 5);
    }

    @Says(at = "T1", value = "WIDTH, 1 to 8 (7)")
    static void width() {
        Check.can("", 3, 7);
        Check.can("width 1;", 3, 1);
        Check.can("width 8;", 3, 8);
        cannot("width 0;", 6);
        cannot("width 9;", 6);
    }

    @Says(at = "T1", value = "CHANNEL i has BITS 1 + i WIDTH to (i + 1) WIDTH of each FRAME, as many as there is room for")
    static void channelsAsManyAsThereIsRoomFor() {
        Check.can("", 9, 1);
        Check.can("width 8;", 9, 0);
        Check.can("length 9;width 8;", 9, 1);
        Check.can("length 9;width 4;", 9, 2);
        Check.can("length 8;width 4;", 9, 1);
        Check.can("length 4;width 1;", 9, 3);
        Check.can("length 4;width 3;", 9, 1);
        Check.can("length 4;width 4;", 9, 0);
        Check.can("length 24;width 1;", 9, 23);
        Check.can("length 24;width 8;", 9, 2);
    }

    @Says(at = "T1", value = "STOLEN, 0 to 12 (0: none)")
    static void stolen() {
        Check.can("", 4, 0);
        Check.can("stolen 0;", 4, 0);
        Check.can("stolen 12;", 4, 12);
        cannot("stolen 13;", 7);
    }

    @Says(at = "T1", value = "LEAST, 2 to 24 (4)")
    static void least() {
        Check.can("", 5, 4);
        Check.can("least 2;", 5, 2);
        Check.can("least 24;", 5, 24);
        cannot("least 1;", 6);
        cannot("least 25;", 6);
    }

    @Says(at = "T1", value = "WRONG, 1 to 4 (2)")
    static void wrong() {
        Check.can("", 6, 2);
        Check.can("wrong 1 8;", 6, 1);
        Check.can("wrong 4 8;", 6, 4);
        cannot("wrong 0 8;", 6);
        cannot("wrong 5 8;", 6);
    }

    @Says(at = "T1", value = "OF, WRONG to 8 (4)")
    static void of() {
        Check.can("", 7, 4);
        for (int w = 1; w <= 4; w++) {
            Check.can("wrong " + w + " " + w + ";", 7, w);
            Check.can("wrong " + w + " 8;", 7, 8);
            cannot("wrong " + w + " " + (w - 1) + ";", 8);
            cannot("wrong " + w + " 9;", 8);
        }
    }

    @Says(at = "T1", value = "DRIFT, -50 to 50 (0)")
    static void drift() {
        Check.can("", 8, 0);
        Check.can("drift 50;", 8, 50);
        Check.can("lag 50;", 8, -50);
        Check.can("drift 0;", 8, 0);
        cannot("drift 51;", 6);
        cannot("lag 51;", 4);
    }

    // ---- term 1: checks

    /** Four frames of 4, all 0, but for the bits that are told. */
    private static Framer checked(String told, int... ones) {
        Framer x = Check.made("length 4;roles 0 1 c c;least 2;" + told);
        Check.append(x, "0000 0000 0000 0000");
        for (int i : ones) {
            x.turn(i);
        }
        return x;
    }

    @Says(at = "T1", value = "CHECKS of a SUPERFRAME, if there are k of c: a register of k BITS, 0 at first")
    static void registerIsZeroAtFirst() {
        // The ones of c alone go through: with poly 0 nothing is ever turned over in it.
        Check.due("poly 1", checked("poly 1;").checks(0), 0);
        Check.due("poly 0", checked("poly 0;", 1, 5, 15).checks(0), 0);
        Framer none = Check.made("length 4;roles 0 1;poly 63;");
        Check.append(none, "1111 1111");
        Check.due("no c", none.checks(0), 0);
        Framer six = Check.made("length 4;roles 01cccccc;poly 63;");
        six.send(1, 5);
        Check.due("six c: at most 63", six.checks(0) >= 0 && six.checks(0) <= 63, true);
    }

    @Says(at = "T1", value = "for each of its BITS, one behind the other, those of c taken for 1")
    static void bitsOfCAreTakenForOne() {
        // Poly 1 of two: the register goes 01 10 01 10 behind the first c, and is 00 behind the second.
        Check.due("as they are", checked("poly 1;").checks(0), 0);
        Check.due("c turned over", checked("poly 1;", 8).checks(0), 0);
        Check.due("both", checked("poly 1;", 8, 12).checks(0), 0);
        Check.due("the bit behind c", checked("poly 1;", 9).checks(0) != 0, true);
        Check.due("the first bit of all", checked("poly 1;", 0).checks(0) != 0, true);
        Check.due("the last bit", checked("poly 1;", 15).checks(0), 1);
    }

    @Says(at = "T1", value = "the top one of the register and the BIT, if unlike: the register goes up by one place, POLY"
        + " (its lowest k) is turned over in it")
    static void unlikeTurnsPolyOver() {
        Check.due("unlike at the last bit", checked("poly 1;", 15).checks(0), 1);
        Check.due("unlike ahead of it, then alike", checked("poly 1;", 14).checks(0), 2);
        Check.due("unlike twice", checked("poly 1;", 13).checks(0), 1);
        Check.due("poly 2", checked("poly 2;", 15).checks(0), 2);
        // Poly 3 of two: behind the first c 11 01 10 11, behind the second 10 11 01 10.
        Check.due("poly 3", checked("poly 3;").checks(0), 2);
        Framer x = Check.made("length 5;roles 0 1 c;poly 1;");
        Check.append(x, "00000 00000 00000");
        Check.due("one, of 15", x.checks(0), 1);
    }

    @Says(at = "T1", value = "POLY (its lowest k)")
    static void polyHasItsLowest() {
        for (int i = 9; i < 16; i++) {
            int low = checked("poly 1;", i).checks(0);
            Check.due("poly 61, bit " + i, checked("poly 61;", i).checks(0), low);
            Check.due("poly 5, bit " + i, checked("poly 5;", i).checks(0), low);
            Check.due("poly 60, bit " + i, checked("poly 60;", i).checks(0), 0);
        }
    }

    @Says(at = "T1", value = "if alike, it goes up alone")
    static void alikeGoesUpAlone() {
        Check.due("01 goes up", checked("poly 1;", 14).checks(0), 2);
        // 10 and a 1 are alike: what is at the top goes out.
        Check.due("10 goes out", checked("poly 2;", 14, 15).checks(0), 0);
    }

    // ---- term 1: tokens

    @Says(at = "T1", value = "THE TEXT has at most 300 bytes")
    static void textHasThreeHundred() {
        Framer x = new Framer();
        for (int n = 8; n <= 296; n += 8) {
            Check.due("key to " + n, x.key(Check.eight(BLANKS, 0)), n);
        }
        Check.due("to 301", x.key(Check.eight("     ", 0)), NONE);
        Check.due("to 300", x.key(Check.eight("    ", 0)), 300);
        Check.due("it has", x.count(14), 300);
        Check.due("to 301 by one", x.key(Check.eight(";", 0)), NONE);
        Check.due("it still has", x.count(14), 300);
        Check.due("300 blanks", x.scheme(), 48);
    }

    @Says(at = "T1", value = "TOKENS, each as long as it goes")
    static void tokensAreAsLongAsTheyGo() {
        misplaced("lengthlength 8;", 0);
        misplaced("polypoly 8;", 0);
        misplaced("lengt h 8;", 0);
        cannot("length 2 ;", 7);
        misplaced("length 2 4;", 9);
        Check.can("length 24;", 0, 24);
    }

    @Says(at = "T1", value = "with blanks (32, 10) between where one likes")
    static void blanks() {
        Check.can("\n length \n\n 9 \n ; \n", 0, 9);
        Check.can("length9;poly7;", 0, 9);
        Check.can("length9;poly7;", 2, 7);
        roles("roles0 1c\nd;", 0, 1, 2, 3);
        for (int sign : new int[] {1, 9, 11, 12, 13, 31, 33, 160, 255}) {
            misplaced("length" + (char) sign + "9;", 6);
            misplaced(" " + (char) sign, 1);
        }
    }

    @Says(at = "T1", value = "words, letters a to z")
    static void words() {
        for (int sign : new int[] {96, 123, 65, 90, 64, 91, 95, 225}) {
            misplaced("poly" + (char) sign + "5;", 4);
            misplaced((char) sign + "poly 5;", 0);
        }
        misplaced("a 5;", 0);
        misplaced("z 5;", 0);
        misplaced("polya 5;", 0);
        misplaced("polyz 5;", 0);
        misplaced("Poly 5;", 0);
        String[] names = {"length", "poly", "width", "stolen", "least", "drift", "lag", "roles", "wrong"};
        for (String name : names) {
            for (int i = 0; i < name.length(); i++) {
                misplaced(name.substring(0, i) + "q" + name.substring(i + 1) + " 5;", 0);
                misplaced(name.substring(0, i) + name.substring(i + 1) + " 5;", 0);
            }
            misplaced(name + "s 5;", 0);
        }
    }

    @Says(at = "T1", value = "NUMBERS, digits, 12 at most")
    static void numbers() {
        Check.can("poly 9;", 2, 9);
        Check.can("poly 50;", 2, 50);
        misplaced("poly 5/;", 6);
        misplaced("poly 5:;", 6);
        misplaced("poly -5;", 5);
        misplaced("poly +5;", 5);
        cannot("poly 000000000001;", 5);
        cannot("poly 999999999999;", 5);
        roles("roles 010101010101;", 0, 1, 0, 1, 0, 1, 0, 1, 0, 1, 0, 1);
    }

    @Says(at = "T1", value = "(a longer row of digits is none)")
    static void longerRowsOfDigitsAreNone() {
        misplaced("poly 0000000000001;", 5);
        misplaced("0000000000001", 0);
        misplaced("roles 0101010101010;", 6);
        misplaced("roles 01 0000000000000;", 9);
        misplaced("length 3;poly 0000000000001;", 14);
        misplaced("poly 1 00000000000000000000;", 7);
    }

    // ---- term 1: a text

    @Says(at = "T1", value = "any number of  length N ;  roles ROW ;  poly N ;  width N ;")
    static void anyNumber() {
        Check.can("", 0, 8);
        Check.can("   ", 0, 8);
        StringBuilder many = new StringBuilder();
        for (int n = 0; n < 42; n++) {
            many.append("poly ").append(n % 10).append(';');
        }
        Check.can(many.toString(), 2, 1);
        StringBuilder full = new StringBuilder("width 8;lag 7;");
        while (full.length() < 300) {
            full.append(full.length() + 6 <= 300 ? "lag 1;" : "\n");
        }
        Check.can(full.toString(), 8, -1);
        misplaced(";", 0);
        misplaced("poly 1;;", 7);
        misplaced("poly 1 width 2;", 7);
    }

    @Says(at = "T1", value = "ROW: NUMBERS and words of c and d alone, one behind the other, as many as one likes, one at"
        + " least")
    static void rowHasOneAtLeast() {
        misplaced("roles;", 5);
        misplaced("roles  ;", 7);
        misplaced("roles", 5);
        roles("roles 01;", 0, 1);
        roles("roles 0 1 c d 0 1 c d 0 1 c d;", 0, 1, 2, 3, 0, 1, 2, 3, 0, 1, 2, 3);
        roles("roles cd01dc10;", 2, 3, 0, 1, 3, 2, 1, 0);
        cannot("roles 0 1 c d 0 1 c d 0 1 c d 0;", 0);
    }

    @Says(at = "T1", value = "their signs, of NUMBERS 0 and 1 alone")
    static void rowsAreOfZeroAndOne() {
        misplaced("roles 012;", 6);
        misplaced("roles 01 9;", 9);
        misplaced("roles 01 0000020;", 9);
        misplaced("roles 01 ca;", 9);
        misplaced("roles 01 be;", 9);
        misplaced("roles 01 e;", 9);
        misplaced("roles 01 cdcdx;", 9);
    }

    @Says(at = "T1", value = "wrong: WRONG, OF")
    static void wrongHasTwo() {
        Check.can("wrong 3 5;", 6, 3);
        Check.can("wrong 3 5;", 7, 5);
        misplaced("wrong;", 5);
        misplaced("wrong 3;", 7);
        misplaced("wrong 3 x;", 8);
        misplaced("wrong 3 5 5;", 10);
        misplaced("wrong 3", 7);
        misplaced("wrong 3 5", 9);
    }

    @Says(at = "T1", value = "lag: the DRIFT is 0 less N")
    static void lag() {
        Check.can("lag 1;", 8, -1);
        Check.can("lag 0;", 8, 0);
        Check.can("lag 50;", 8, -50);
        Check.can("drift 1;", 8, 1);
    }

    @Says(at = "T1", value = "other NUMBERS have 3 digits at most")
    static void threeDigits() {
        String[] names = {"length", "poly", "width", "stolen", "least", "drift", "lag"};
        int[] whats = {0, 2, 3, 4, 5, 8, 8};
        for (int i = 0; i < names.length; i++) {
            Check.can(names[i] + " 007;", whats[i], names[i].equals("lag") ? -7 : 7);
            cannot(names[i] + " 0007;", names[i].length() + 1);
            cannot(names[i] + " 1000;", names[i].length() + 1);
        }
        Check.can("wrong 003 007;", 7, 7);
        cannot("wrong 0003 7;", 6);
        cannot("wrong 3 0007;", 8);
        // 2 to the 32nd and 5 more: a number that wraps around is none of 3 digits.
        cannot("poly 4294967301;", 5);
    }

    @Says(at = "T1", value = "Later ones strike")
    static void laterOnesStrike() {
        Check.can("length 5;length 9;", 0, 9);
        Check.can("poly 5;width 2;poly 6;", 2, 6);
        Check.can("drift 7;lag 3;", 8, -3);
        Check.can("lag 3;drift 7;", 8, 7);
        Check.can("wrong 4 8;wrong 1 1;", 7, 1);
        roles("roles 01010101;roles d1 0;", 3, 1, 0);
        Check.can("roles 01cc;roles 01;", 10, 0);
    }

    // ---- term 1: faults

    @Says(at = "T1", value = "1 the first token that can not stand there")
    static void faultOneIsTheFirst() {
        misplaced("8;", 0);
        misplaced("length length 8; !", 7);
        misplaced("length ;; !", 7);
        misplaced("length 8 poly 8 ;", 9);
        misplaced("roles 01 length 8;", 9);
        misplaced("c;", 0);
    }

    @Says(at = "T1", value = "or a byte that begins none")
    static void aByteThatBeginsNone() {
        misplaced("!", 0);
        misplaced("length 8;,", 9);
        misplaced("length 8,", 8);
        misplaced("length" + (char) 200, 6);
        misplaced("roles 01" + (char) 255 + ";", 8);
        misplaced("length 8; " + (char) 128, 10);
    }

    @Says(at = "T1", value = "or the end, if more must come")
    static void theEndIfMoreMustCome() {
        misplaced("length", 6);
        misplaced("length 8", 8);
        misplaced("length 8 \n ", 11);
        misplaced("roles", 5);
        misplaced("roles 01 cd ", 12);
        misplaced("length 8;p", 9);
        misplaced("length 8;poly", 13);
        Check.can("length 8;", 0, 8);
    }

    @Says(at = "T1", value = "(the byte from 0 on; the end's: how many bytes there are)")
    static void thePlaceOfTheEnd() {
        StringBuilder full = new StringBuilder("length 8");
        while (full.length() < 300) {
            full.append(' ');
        }
        misplaced(full.toString(), 300);
        misplaced("poly", 4);
        misplaced("\n\nx", 2);
    }

    @Says(at = "T1", value = "If there is none, the first by place")
    static void faultTwoOnlyWithoutFaultOne() {
        misplaced("length 3;poly", 13);
        misplaced("roles 0;!", 8);
        misplaced("wrong 9 9", 9);
        cannot("length 3;poly 64;", 7);
        cannot("poly 64;length 3;", 5);
        cannot("poly 1;roles 0;poly 64;", 7);
        cannot("poly 64;roles 0;", 5);
        cannot("wrong 5 9;", 6);
        cannot("length 3;length 8;", 7);
    }

    @Says(at = "T1", value = "of OF less than WRONG")
    static void ofLessThanWrong() {
        cannot("wrong 4 3;", 8);
        cannot("wrong 2  1;", 9);
        cannot("wrong 1 0;", 8);
        Check.can("wrong 3 3;", 7, 3);
    }

    @Says(at = "T1", value = "of drift, lag 0 to 50; of OF less than WRONG; of 4 digits and more")
    static void driftAndLag() {
        cannot("drift 51;", 6);
        cannot("drift 999;", 6);
        cannot("lag 51;", 4);
        cannot("lag 0000;", 4);
        cannot("drift 0050;", 6);
    }

    @Says(at = "T1", value = "or the word roles of a ROW that can not be")
    static void theWordRoles() {
        cannot(" \nroles 0 c d;", 2);
        cannot("poly 1; roles 01 ccccccc;", 8);
        cannot("poly 1;roles 0;", 7);
        cannot("roles 0;roles 01;", 0);
    }

    // ---- promise 1

    @Says(at = "P1", value = "The SCHEME as at first, an empty LINE.")
    static void aNewObject() {
        int[] counts = {8, 6, 0, 7, 0, 4, 2, 4, 0, 1, 0, 0, 0, 0, 0, 0, -1000};
        Framer x = new Framer();
        for (int w = 0; w < counts.length; w++) {
            Check.due("new: count(" + w + ")", x.count(w), counts[w]);
        }
        Check.receiver("new", x, 0, 48, 1, 0, 0, 0, NONE, 0, 0, 0, 0, 0, 0, 0, 0, 0, 0, 0, NONE);
        Check.due("new: bit(0)", x.bit(0), NONE);
    }

    @Says(at = "P1", value = "The SCHEME as at first, an empty LINE.")
    static void oneObjectIsNotAnother() {
        Framer x = new Framer();
        Framer y = new Framer();
        Check.type(x, "length 9;");
        x.scheme();
        x.send(1, 1);
        x.image(0);
        Check.due("another's length", y.count(0), 8);
        Check.due("another's line", y.count(11), 0);
        Check.due("another's image", y.again(0), false);
    }

    // ---- promise 2

    @Says(at = "P2", value = "those of eight, the highest first, up to the first one that is 0")
    static void keyUpToTheFirstZero() {
        Framer x = new Framer();
        Check.due("0", x.key(0L), 0);
        Check.due("zero first", x.key(0x0070_6F6C_7920_353BL), 0);
        Check.due("poly", x.key(0x706F_6C79_0070_6F6CL), 4);
        Check.due("5 and no more", x.key(0x3500_0000_0000_003BL), 5);
        Check.due("one byte, the lowest", x.key(0x3BL), 5);
        Check.due("the end", x.key(0x3B00_0000_0000_0000L), 6);
        Check.due("read", x.scheme(), 48);
        Check.due("poly 5;", x.count(2), 5);
        Check.due("all eight", x.key(-1L), 8);
        Check.due("the lowest of long", x.key(Long.MIN_VALUE), 9);
        Check.due("the highest of long", x.key(Long.MAX_VALUE), 17);
    }

    @Says(at = "P2", value = "NONE, and nothing comes, if it would have more than 300.")
    static void keyRefused() {
        Framer x = new Framer();
        for (int n = 8; n <= 288; n += 8) {
            x.key(Check.eight(BLANKS, 0));
        }
        x.key(Check.eight("poly 63", 0));
        Check.due("295", x.count(14), 295);
        Check.due("eight more", x.key(Check.eight(";;;;;;;;", 0)), NONE);
        Check.due("six more", x.key(Check.eight(";;;;;;", 0)), NONE);
        Check.due("nothing came", x.count(14), 295);
        Check.due("none more", x.key(0L), 295);
        Check.due("five more", x.key(Check.eight(";    ", 0)), 300);
        Check.due("none more of 300", x.key(0L), 300);
        Check.due("nothing that came stays", x.scheme(), 48);
        Check.due("poly", x.count(2), 63);
        Check.due("there is room again", x.key(Check.eight(BLANKS, 0)), 8);
    }

    // ---- promise 3

    @Says(at = "P3", value = "THE TEXT is read (it is empty then)")
    static void textIsEmptyThen() {
        Framer x = Check.made("length 9;");
        Check.due("empty", x.count(14), 0);
        Check.type(x, "length 99;");
        Check.due("a fault", x.scheme(), NONE);
        Check.due("empty behind a fault, too", x.count(14), 0);
        Check.due("an empty one", x.scheme(), 48);
    }

    @Says(at = "P3", value = "the SCHEME is as at first, but as told")
    static void asAtFirstButAsTold() {
        Framer x = Check.made("length 4;roles 0 c 1;poly 9;width 2;stolen 3;least 5;wrong 3 6;drift 9;");
        Check.type(x, "width 6;");
        Check.due("told", x.scheme(), 48);
        int[] counts = {8, 6, 0, 6, 0, 4, 2, 4, 0, 1, 0};
        for (int w = 0; w < counts.length; w++) {
            Check.due("count(" + w + ")", x.count(w), counts[w]);
        }
        Check.due("role(1)", x.role(1), 0);
    }

    @Says(at = "P3", value = "the LINE empty, the RECEIVER as at first")
    static void lineEmptyReceiverAsAtFirst() {
        Framer taken = Scenes.ten(1, 2, 3);
        taken.turn(48 + 40);
        Framer[] before = {Scenes.slow(), Scenes.fast(), Scenes.checked(), taken};
        String[] told = {Scenes.SMALL + "width 3;stolen 1;", Scenes.SMALL, Scenes.CHECKED, Scenes.TEN};
        int[] superframes = {8, 8, 12, 48};
        for (int i = 0; i < before.length; i++) {
            Framer x = before[i];
            x.hear(x.count(11));
            Check.due("much was heard", x.frame(0) > 0, true);
            Check.type(x, told[i]);
            Check.due("told", x.scheme(), superframes[i]);
            Check.receiver("as at first", x, 0, superframes[i], 1, 0, 0, 0, NONE, 0, 0, 0, 0, 0, 0, 0, 0, 0, 0, 0);
            Check.due("nothing read", x.frame(0), NONE);
            Check.due("no signal", x.signal(0), NONE);
            Check.due("the line", x.count(11), 0);
            Check.due("heard", x.count(12), 0);
            Check.due("no bit", x.bit(0), NONE);
            Check.due("no value", x.value(0), NONE);
        }
    }

    @Says(at = "P3", value = "how many BITS a SUPERFRAME has")
    static void howManyBitsASuperframeHas() {
        Framer x = new Framer();
        Check.due("at first", x.scheme(), 48);
        Check.type(x, "length 4;roles 01;");
        Check.due("least", x.scheme(), 8);
        Check.type(x, "length 24;roles 010101010101;");
        Check.due("most", x.scheme(), 288);
    }

    @Says(at = "P3", value = "NONE: a FAULT (all but THE TEXT, the FAULT stays).")
    static void allStaysByAFault() {
        Framer x = Check.made("length 4;roles 0 c 1;poly 1;least 2;");
        x.send(2, 9);
        x.hear(5);
        String before = Keep.state(x);
        Check.type(x, "length 9;roles 01;poly 5;width 1;least 9;wrong 1 1;drift 9;stolen 0013;");
        Check.due("a fault", x.scheme(), NONE);
        Check.due("acts stay", x.count(13), 2);
        Keep.same("all stays", Keep.state(x), before);
        Check.type(x, "roles 010101;roles");
        Check.due("the other fault", x.scheme(), NONE);
        Keep.same("all stays", Keep.state(x), before);
        Check.due("undo", x.undo(), 1);
        Check.due("it was hear", x.count(12), 0);
    }

    // ---- promise 4

    @Says(at = "P4", value = "Of the latest scheme(): its FAULT (0 without, and at first)")
    static void faultOfTheLatest() {
        Framer x = new Framer();
        Check.due("at first", x.fault(false), 0);
        Check.type(x, "poly 64;");
        x.scheme();
        Check.due("2", x.fault(false), 2);
        Check.type(x, "poly 64");
        Check.due("ahead of scheme()", x.fault(false), 2);
        x.scheme();
        Check.due("1", x.fault(false), 1);
        x.scheme();
        Check.due("without", x.fault(false), 0);
    }

    @Says(at = "P4", value = "or (place) its place (NONE without)")
    static void placeOfTheLatest() {
        Framer x = new Framer();
        Check.due("at first", x.fault(true), NONE);
        Check.type(x, "poly 64;");
        x.scheme();
        Check.due("5", x.fault(true), 5);
        Check.type(x, ";");
        x.scheme();
        Check.due("0", x.fault(true), 0);
        x.scheme();
        Check.due("without", x.fault(true), NONE);
    }
}
