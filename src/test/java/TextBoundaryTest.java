/**
 * The edges that section 1 and promises 2 to 7 name: one test for each sentence, which stands above it. A mark ^ in a
 * text tells where its error is; it is taken out.
 */
public final class TextBoundaryTest {
    private static final String HEAD = Check.HEAD;
    private static final String SIX = Check.SIX;
    private static final String TWO = HEAD + "worker a team 0 quota 1;worker b team 1 quota 1;";
    private static final String[] KEYWORDS = {"table", "tolerance", "patience", "least", "worker", "team", "quota",
        "trust", "rows", "size", "bar"};

    private static String repeated(String text, int times) {
        StringBuilder all = new StringBuilder();
        for (int i = 0; i < times; i++) {
            all.append(text);
        }
        return all.toString();
    }

    private static String filled(String text, int length) {
        return text + repeated(" ", length - text.length());
    }

    // ---- the input buffer, promises 2 and 3 -------------------------------------------------

    /** "The input buffer holds at most 500 bytes." */
    private static void atMost500Bytes() {
        ReviewTable x = new ReviewTable();
        for (int i = 1; i <= 24; i++) {
            x.append(0, 0, 0, 0, 0);
        }
        Check.due("append at 480, the last that fits", x.append(0, 0, 0, 0, 0), 500);
        for (int length = 500; length > 480; length--) {
            x.truncate(length);
            Check.noState("append at " + length, () -> x.append(0, 0, 0, 0, 0));
        }
        x.truncate(480);
        Check.due("append at 480", x.append(0, 0, 0, 0, 0), 500);
    }

    /** "Throws IllegalStateException if the buffer would hold more than 500 bytes", and changes nothing then. */
    private static void refusedAppend() {
        ReviewTable x = new ReviewTable();
        Check.put(x, filled(SIX, 490));
        Check.noState("append at 490", () -> x.append(-1, -1, -1, -1, -1));
        Check.noValue("truncate(491)", () -> x.truncate(491));
        x.truncate(490);
        Check.due("load of what was there", x.load(), 6);
    }

    /** "the four bytes of each parameter, most significant byte first": each of the 20 places, with each kind of byte. */
    private static void placesOfBytes() {
        int[] wrong = {0, 35, 127, 128, 255};
        for (int place = 0; place < 20; place++) {
            for (int sign : wrong) {
                int[] five = {0x20202020, 0x20202020, 0x20202020, 0x20202020, 0x20202020};
                int shift = 24 - 8 * (place % 4);
                five[place / 4] = five[place / 4] & ~(255 << shift) | sign << shift;
                ReviewTable x = new ReviewTable();
                Check.due("append", x.append(five[0], five[1], five[2], five[3], five[4]), 20);
                x.load();
                Check.due("place of byte " + sign, x.errorPosition(), place);
            }
        }
    }

    /** "the new length, 0 to the current length": the length 0, a part and all; one less and one more are wrong. */
    private static void truncateRange() {
        ReviewTable x = new ReviewTable();
        x.truncate(0);
        int[] beyond = {1, -1, 500, Integer.MAX_VALUE, Integer.MIN_VALUE};
        for (int length : beyond) {
            Check.noValue("truncate(" + length + ") of an empty buffer", () -> x.truncate(length));
        }
        x.append(0, 0, 0, 0, 0);
        x.truncate(20);
        Check.noValue("truncate(21) of 20", () -> x.truncate(21));
        Check.noValue("truncate(-1) of 20", () -> x.truncate(-1));
        Check.due("refused ones change nothing", x.append(0, 0, 0, 0, 0), 40);
        x.truncate(39);
        Check.noValue("truncate(40) of 39", () -> x.truncate(40));
        x.truncate(1);
        Check.noValue("truncate(2) of 1", () -> x.truncate(2));
        x.truncate(0);
        Check.due("append behind truncate(0)", x.append(0, 0, 0, 0, 0), 20);
    }

    /** "Cuts the input buffer to its first length bytes": what was cut away does not come back. */
    private static void truncateCuts() {
        ReviewTable x = new ReviewTable();
        Check.put(x, HEAD + "worker x");
        x.truncate(HEAD.length());
        Check.due("the text before the cut", x.load(), 0);
        Check.put(x, HEAD);
        x.truncate(0);
        Check.due("nothing is left", x.load(), -4);
        Check.due("the end of the text", x.errorPosition(), 0);
        Check.put(x, "abc");
        x.truncate(1);
        x.append(0x20202020, 0x20202020, 0x20202020, 0x20202020, 0x20202020);
        x.load();
        Check.due("an unknown word of one letter", x.errorPosition(), 0);
        Check.put(x, TWO);
        x.load();
        Check.put(x, "bb");
        x.truncate(1);
        Check.due("find of what is left", x.find(), 1);
    }

    // ---- tokens -----------------------------------------------------------------------------

    /** "a word is a maximal run of lowercase letters a-z": a and z are in it, their neighbours and capitals are not. */
    private static void lettersOfWords() {
        Check.accepted(HEAD + "worker az team 0 quota 1;worker z team 0 quota 1;worker a team 0 quota 1;", 3, 0);
        char[] others = {'`', '{', 'A', 'Z', '@', '[', '_', '\'', (char) 225, (char) 250};
        for (char other : others) {
            Check.refused(1, HEAD + "worker ^" + other + "a team 0 quota 1;");
            Check.refused(1, HEAD + "worker a^" + other + " team 0 quota 1;");
            Check.refused(1, HEAD + "worker a ^te" + other + "am 0 quota 1;");
        }
        Check.refused(1, HEAD + "^worke r a team 0 quota 1;");
        Check.refused(1, HEAD + "^workera team 0 quota 1;");
        Check.refused(1, HEAD + "^barworker a team 0 quota 1;");
    }

    /** "a number is a maximal run of decimal digits": 0 and 9 are in it, their neighbours are not. */
    private static void digitsOfNumbers() {
        Check.accepted("table tolerance 09 patience 9 least 9;rows 10 size 9;", 0, 10);
        char[] others = {'/', ':', '-', '+', '.', (char) 178, (char) 185};
        for (char other : others) {
            Check.refused(1, "table tolerance ^" + other + "1 patience 1 least 1;");
            Check.refused(1, "table tolerance 1^" + other + " patience 1 least 1;");
            Check.refused(1, "table tolerance 1^" + other + "0 patience 1 least 1;");
        }
        Check.refused(1, "table tolerance 1 ^0 patience 1 least 1;");
        Check.refused(1, "table tolerance ^x patience 1 least 1;");
    }

    /** "of any length": leading zeros count nothing, and no number is so long that it wraps around into its range. */
    private static void lengthsOfNumbers() {
        String zeros = repeated("0", 400);
        Check.accepted("table tolerance " + zeros + "20 patience 1 least 1;", 0, 0);
        Check.accepted("table tolerance " + zeros + " patience 0050 least 00;rows 0024 size 009;", 0, 24);
        Check.refused(2, "table tolerance ^" + zeros + "21 patience 1 least 1;");
        Check.refused(2, "table tolerance ^1" + zeros + " patience 1 least 1;");
        Check.refused(2, HEAD + "rows ^" + zeros + " size 1;");
        String[] wraps = {"100", "256", "258", "999", "1000", "1001", "10000", "32770", "65538", "2147483647",
            "2147483648", "4294967296", "4294967298", "9223372036854775808", "18446744073709551617",
            "340282366920938463463374607431768211457"};
        for (String number : wraps) {
            Check.refused(2, "table tolerance ^" + number + " patience 1 least 1;");
            Check.refused(2, HEAD + "rows ^" + number + " size 1;");
            Check.refused(2, HEAD + "rows 1 size ^" + number + ";");
        }
    }

    /** "each other byte except space (32) and newline (10) is a symbol of its own": all of them, between statements. */
    private static void otherBytes() {
        for (int sign = 0; sign < 256; sign++) {
            boolean letter = sign >= 'a' && sign <= 'z';
            boolean digit = sign >= '0' && sign <= '9';
            String text = HEAD + (char) sign + (char) sign + "rows 1 size 1;";
            if (sign == ' ' || sign == '\n') {
                Check.accepted(text, 0, 1);
            } else if (!letter && !digit) {
                Check.refusedAt(text, 1, HEAD.length());
                Check.refusedAt("table tolerance 1 patience 1 least 1" + (char) sign + ";", 1,
                        sign == ';' ? 37 : 36);
            }
        }
    }

    /** "Spaces and newlines only separate tokens": as many as one likes, or none where the tokens end by themselves. */
    private static void blanks() {
        Check.accepted("table tolerance2patience5least5;worker a team0quota1trust0;worker b team5quota5;bar a b;rows24size9;", 2, 24);
        Check.accepted(" \n table\n\n tolerance \n2 patience\n5 least 5 \n ; rows\n1\nsize 1 ;\n", 0, 1);
        Check.accepted(HEAD + repeated("\n", 400), 0, 0);
        Check.accepted(repeated(" ", 460) + HEAD, 0, 0);
        Check.refused(1, "^ta ble tolerance 2 patience 5 least 5;");
        Check.refused(1, HEAD + "rows 1 size 1 ^0;");
        Check.refused(1, HEAD + "rows 1 size^\t1;");
        Check.refused(1, HEAD + "rows 1 size^\r1;");
    }

    // ---- statements -------------------------------------------------------------------------

    /** "a text of one or more statements": one is enough, none is not. */
    private static void oneStatement() {
        Check.accepted(HEAD, 0, 0);
        Check.refused(1, "^");
        Check.refused(1, "   ^");
    }

    /** "each statement ends with ';'": each kind, without it, at the end of the text and before another statement. */
    private static void semicolons() {
        String[] statements = {"table tolerance 2 patience 5 least 5", HEAD + "rows 1 size 1", TWO + "bar a b",
            HEAD + "worker a team 0 quota 1", HEAD + "worker a team 0 quota 1 trust 1"};
        for (String statement : statements) {
            Check.accepted(statement + ";", statement.contains("b team") ? 2 : statement.contains("worker") ? 1 : 0,
                    statement.contains("rows") ? 1 : 0);
            Check.refused(1, statement + "^");
            Check.refused(1, statement + " ^rows 1 size 1;");
            Check.refused(1, statement + "^,");
            Check.refused(1, statement + ";^;");
        }
    }

    /** "The first statement, which each text has, and only there" (the table statement). */
    private static void tableFirstAndOnce() {
        Check.refused(1, "^rows 1 size 1;" + HEAD);
        Check.refused(1, "^worker a team 0 quota 1;" + HEAD);
        Check.refused(1, "^bar a b;" + HEAD);
        Check.refused(1, "^;" + HEAD);
        Check.refused(1, HEAD + "^" + HEAD);
        Check.refused(1, HEAD + "rows 1 size 1;^table");
    }

    /** The words of a statement in another order, left out or told twice: each cannot stand there. */
    private static void orderOfWords() {
        Check.refused(1, "table ^patience 5 tolerance 2 least 5;");
        Check.refused(1, "table tolerance 2 ^least 5 patience 5;");
        Check.refused(1, "table tolerance 2 patience 5^;");
        Check.refused(1, "table tolerance 2 patience 5 least^;");
        Check.refused(1, HEAD + "worker a ^quota 1 team 0;");
        Check.refused(1, HEAD + "worker a team 0^;");
        Check.refused(1, HEAD + "worker a team 0 ^trust 5 quota 1;");
        Check.refused(1, HEAD + "worker a team 0 quota 1 trust 5 ^trust 5;");
        Check.refused(1, HEAD + "worker ^team 0 quota 1;");
        Check.refused(1, HEAD + "rows ^size 1;");
        Check.refused(1, HEAD + "rows 1^;");
        Check.refused(1, HEAD + "^size 1 rows 1;");
        Check.refused(1, TWO + "bar a b ^a;");
        Check.refused(1, TWO + "bar a^;");
        Check.refused(1, TWO + "bar^;");
    }

    /** "0 to 20; 1 to 50; 0 to 19" (tolerance, patience and least trust). */
    private static void rangesOfTheTable() {
        Check.accepted("table tolerance 0 patience 1 least 0;", 0, 0);
        Check.accepted("table tolerance 20 patience 50 least 19;", 0, 0);
        Check.refused(2, "table tolerance ^21 patience 1 least 0;");
        Check.refused(2, "table tolerance 0 patience ^0 least 0;");
        Check.refused(2, "table tolerance 0 patience ^51 least 0;");
        Check.refused(2, "table tolerance 0 patience 1 least ^20;");
        ReviewTable x = Check.loaded("table tolerance 0 patience 1 least 0;");
        Check.due("tolerance", x.property(3), 0);
        Check.due("patience", x.property(4), 1);
        Check.due("least trust", x.property(5), 0);
        Check.load(x, "table tolerance 20 patience 50 least 19;");
        Check.due("tolerance", x.property(3), 20);
        Check.due("patience", x.property(4), 50);
        Check.due("least trust", x.property(5), 19);
    }

    /** "the team, 0 to 5; how many rows it may have in work, 1 to 5; its trust, 0 to 20, 10 without it". */
    private static void rangesOfWorkers() {
        ReviewTable x = Check.loaded(HEAD + "worker a team 0 quota 1 trust 0;worker b team 5 quota 5 trust 20;worker c team 1 quota 2;");
        int[][] want = {{0, 1, 0}, {5, 5, 20}, {1, 2, 10}};
        for (int w = 0; w < 3; w++) {
            for (int what = 0; what < 3; what++) {
                Check.due("worker(" + w + "," + what + ")", x.worker(w, what), want[w][what]);
            }
        }
        Check.refused(2, HEAD + "worker a team ^6 quota 1;");
        Check.refused(2, HEAD + "worker a team 0 quota ^0;");
        Check.refused(2, HEAD + "worker a team 0 quota ^6;");
        Check.refused(2, HEAD + "worker a team 0 quota 1 trust ^21;");
    }

    /** "so many rows more, 1 to 24, of a size, 1 to 9". */
    private static void rangesOfRows() {
        ReviewTable x = Check.loaded(HEAD + "rows 1 size 1;rows 23 size 9;");
        Check.due("row(0,0)", x.row(0, 0), 1);
        Check.due("row(1,0)", x.row(1, 0), 9);
        Check.due("row(23,0)", x.row(23, 0), 9);
        Check.noWorker("row(24,0)", () -> x.row(24, 0));
        Check.accepted(HEAD + "rows 24 size 1;", 0, 24);
        Check.refused(2, HEAD + "rows ^0 size 1;");
        Check.refused(2, HEAD + "rows ^25 size 1;");
        Check.refused(2, HEAD + "rows 1 size ^0;");
        Check.refused(2, HEAD + "rows 1 size ^10;");
    }

    /** "NAME is a word of 1 to 6 letters", and code 1 "also a word of more than 6 letters where a NAME is expected". */
    private static void lengthsOfNames() {
        Check.accepted(HEAD + "worker a team 0 quota 1;worker abcdef team 0 quota 1;bar a abcdef;", 2, 0);
        String[] longer = {"abcdefg", "abcdefgh", repeated("a", 300)};
        for (String name : longer) {
            Check.refused(1, HEAD + "worker ^" + name + " team 0 quota 1;");
            Check.refused(1, HEAD + "worker abcdef team 0 quota 1;bar ^" + name + " abcdef;");
            Check.refused(1, HEAD + "worker abcdef team 0 quota 1;bar abcdef ^" + name + ";");
        }
        Check.refused(1, HEAD + "worker ^1 team 0 quota 1;");
        Check.refused(1, HEAD + "worker^");
    }

    /** "a word of 1 to 6 letters that is not a keyword": each keyword at each place of a NAME. */
    private static void keywordsAreNoNames() {
        for (String keyword : KEYWORDS) {
            Check.refused(1, HEAD + "worker ^" + keyword + " team 0 quota 1;");
            Check.refused(1, TWO + "bar ^" + keyword + " a;");
            Check.refused(1, TWO + "bar a ^" + keyword + ";");
        }
        String[] near = {"tabl", "tables", "tolera", "patien", "leas", "leasts", "worke", "tea", "teams", "quot",
            "quotas", "trus", "trusts", "row", "rowss", "siz", "sizes", "ba", "bars", "able", "ar"};
        for (String name : near) {
            Check.accepted(HEAD + "worker " + name + " team 0 quota 1;worker a team 0 quota 1;bar " + name + " a;", 2, 0);
        }
    }

    /** "At most 6 workers", and code 4 "the word worker of a seventh worker". */
    private static void atMostSixWorkers() {
        Check.accepted(HEAD, 0, 0);
        Check.accepted(SIX, 6, 0);
        Check.accepted(SIX + "rows 24 size 9;bar a f;", 6, 24);
        Check.refused(4, SIX + "^worker g team 0 quota 1;");
        Check.refused(4, SIX + "rows 1 size 1;^worker g team 0 quota 1;");
        Check.refused(4, SIX + "^worker a team 0 quota 1;");
        Check.refused(4, SIX + "^worker team;");
        Check.refused(4, SIX + "^worker");
        Check.refused(1, SIX + "^workers g team 0 quota 1;");
    }

    /** "with different names", and code 3 "a NAME that another worker has". */
    private static void differentNames() {
        Check.accepted(HEAD + "worker abc team 0 quota 1;worker ab team 0 quota 1;worker abcd team 0 quota 1;worker bc team 0 quota 1;", 4, 0);
        Check.refused(3, TWO + "worker ^a team 0 quota 1;");
        Check.refused(3, TWO + "worker ^b team 0 quota 1;");
        Check.refused(3, HEAD + "worker abcdef team 0 quota 1;worker ^abcdef team 5 quota 5;");
        Check.refused(3, TWO + "worker ^a");
        Check.accepted(HEAD + "worker old team 0 quota 1;", 1, 0);
    }

    /** "At most 24 rows in all", and code 4 "the number behind the word rows of rows for which there is no room". */
    private static void atMost24Rows() {
        Check.accepted(HEAD + repeated("rows 1size 1;", 24), 0, 24);
        Check.refused(4, HEAD + repeated("rows 1size 1;", 24) + "rows ^1size 1;");
        Check.accepted(HEAD + "rows 23 size 1;rows 1 size 1;", 0, 24);
        Check.refused(4, HEAD + "rows 23 size 1;rows ^2 size 1;");
        Check.refused(4, HEAD + "rows 1 size 1;rows ^24 size 1;");
        Check.accepted(HEAD + "rows 1 size 1;rows 23 size 1;", 0, 24);
        Check.refused(4, HEAD + "rows 24 size 1;rows ^1");
        Check.refused(4, HEAD + "rows 24 size 1;rows ^1 size 99;");
    }

    /** "two workers told ahead that may not meet at a row": all pairs of six, and only those that were told. */
    private static void pairsTold() {
        StringBuilder all = new StringBuilder(SIX);
        for (char one = 'a'; one <= 'f'; one++) {
            for (char two = (char) (one + 1); two <= 'f'; two++) {
                all.append("bar ").append(two).append(' ').append(one).append(';');
            }
        }
        ReviewTable x = Check.loaded(all.toString());
        ReviewTable y = Check.loaded(SIX + "bar f a;bar b c;");
        for (int one = 0; one < 6; one++) {
            for (int two = 0; two < 6; two++) {
                Check.due("all: isBarred(" + one + "," + two + ")", x.isBarred(one, two), one != two);
                Check.due("two: isBarred(" + one + "," + two + ")", y.isBarred(one, two),
                        one + two == 5 && one * two == 0 || one + two == 3 && one * two == 2);
            }
        }
    }

    /** Code 3: "a NAME that no worker has", not even a later one, nor one of the table before. */
    private static void unknownNames() {
        Check.refused(3, TWO + "bar ^c a;");
        Check.refused(3, TWO + "bar a ^c;");
        Check.refused(3, HEAD + "bar ^a b;worker a team 0 quota 1;worker b team 0 quota 1;");
        Check.refused(3, HEAD + "worker a team 0 quota 1;bar a ^b;worker b team 0 quota 1;");
        Check.refused(3, TWO + "bar a ^old;");
        Check.refused(3, TWO + "bar ^aa b;");
        Check.refused(3, HEAD + "worker aa team 0 quota 1;bar ^a aa;");
        Check.refused(3, TWO + "bar ^c c;");
    }

    /** Code 3: "the second NAME of a bar statement that is the first one, or with which the same two were told already (in any order)". */
    private static void pairsToldTwice() {
        Check.refused(3, TWO + "bar a ^a;");
        Check.refused(3, TWO + "bar b ^b;");
        Check.refused(3, TWO + "bar a b;bar a ^b;");
        Check.refused(3, TWO + "bar a b;bar b ^a;");
        Check.refused(3, SIX + "bar e f;bar a b;bar f ^e;");
        Check.accepted(SIX + "bar e f;bar a b;bar f a;bar e a;bar b f;", 6, 0);
    }

    /** "if that token has several errors, the smallest code counts". */
    private static void smallestCode() {
        Check.refused(1, SIX + "rows ^worker g team 0 quota 1;");
        Check.refused(1, SIX + "bar ^worker a;");
        Check.refused(1, SIX + "bar a ^worker;");
        Check.refused(1, SIX + "rows 1 size 1 ^worker g team 0 quota 1;");
        Check.refused(2, HEAD + "rows 24 size 1;rows ^0 size 1;");
        Check.refused(2, HEAD + "rows 24 size 1;rows ^25 size 1;");
        Check.refused(2, HEAD + "rows 1 size 1;rows ^25 size 1;");
        Check.refused(1, HEAD + "rows 24 size 1;rows ^x size 1;");
        Check.refused(1, HEAD + "rows 24 size 1;rows ^;");
        Check.refused(1, HEAD + "worker abcdef team 0 quota 1;worker ^abcdefg team 0 quota 1;");
        Check.refused(1, HEAD + "worker ^99 team 0 quota 1;");
    }

    /** "stops at the first token that has an error": later errors do not count. */
    private static void firstError() {
        Check.refused(2, "table tolerance ^21 patience 0 least 20;#");
        Check.refused(1, "table ^x tolerance 21;");
        Check.refused(3, TWO + "bar ^x x x;");
        Check.refused(4, SIX + "^worker a team 9 quota 9;");
        Check.refused(1, HEAD + "^# rows 0 size 0;");
    }

    /** "The error position is the offset of the token's first byte; for the end of the text it is the text's length." */
    private static void positions() {
        Check.refused(1, "   ^x");
        Check.refused(1, "\n\n ^tabl");
        Check.refused(2, "table tolerance   ^021 patience 1 least 1;");
        Check.refused(1, "table^");
        Check.refused(1, "table   ^");
        Check.refused(1, "table\n^");
        Check.refused(1, HEAD + "rows^");
        Check.refused(1, HEAD + repeated(" ", 500 - HEAD.length() - 1) + "^x");
        Check.refused(1, "table" + repeated(" ", 495) + "^");
        Check.refused(1, repeated(" ", 500) + "^");
        Check.refused(1, repeated(" ", 499) + "^;");
        Check.refused(1, "^" + repeated("x", 500));
    }

    // ---- promises 4 to 7 --------------------------------------------------------------------

    /** "Parses the input buffer and empties it": also an empty one, and also if there is an error. */
    private static void loadEmptiesTheBuffer() {
        ReviewTable x = new ReviewTable();
        Check.due("load of an empty buffer", x.load(), -4);
        Check.due("append behind it", x.append(0, 0, 0, 0, 0), 20);
        Check.due("load with an error", x.load(), -4);
        Check.due("append behind it", x.append(0, 0, 0, 0, 0), 20);
        x.truncate(0);
        Check.due("load", Check.load(x, TWO), 2);
        Check.due("append behind it", x.append(0, 0, 0, 0, 0), 20);
        x.truncate(0);
        Check.due("load again, of nothing", x.load(), -4);
        Check.due("its code", x.errorCode(), 1);
        Check.due("its position", x.errorPosition(), 0);
    }

    private static ReviewTable busy() {
        ReviewTable x = Check.loaded(TWO + "worker c team 2 quota 3;bar a c;rows 3 size 4;");
        Check.work(x, 0, 0, 5, 1, 6);
        x.audit(0, 50);
        x.takeRow(2, 1);
        x.pass(3);
        x.keep(0);
        x.setTable(0, 20);
        x.writeRows();
        return x;
    }

    /** "PARSE_ERROR if there is a parse error (then only the buffer and the parse error change)". */
    private static void failedLoad() {
        ReviewTable x = busy();
        String before = Check.told(x) + x.undoCount() + Check.written(x);
        Check.due("load", Check.load(x, HEAD + "rows 9 size 9;worker a team 0 quota 1;bar a a;"), -4);
        Check.due("all but the parse error", Check.told(x) + x.undoCount() + Check.written(x), before);
        Check.due("the slot", x.restore(0), 3);
        Check.due("the other slot is empty still, the undone one", x.undo(), 5);
        Check.noState("restore(1)", () -> x.restore(1));
    }

    /** "Before the first successful load() there are no workers and rows, the tolerance is 0, the patience 10, the least trust 5, and the time is 0." */
    private static void beforeTheFirstLoad() {
        ReviewTable x = new ReviewTable();
        Check.due("load", Check.load(x, "table tolerance 3 patience 4 least 6;worker a team 0 quota 1;rows 2 size 1;x"), -4);
        int[] want = {0, 0, 0, 0, 10, 5, 0, 0, 0, 0, 0};
        for (int what = 0; what < want.length; what++) {
            Check.due("property(" + what + ")", x.property(what), want[what]);
        }
        Check.due("undoCount()", x.undoCount(), 0);
        Check.put(x, "a");
        Check.due("find", x.find(), -1);
        Check.due("it can be used", x.addRows(1, 1), 0);
        Check.due("it can be used", x.setTable(1, 4), 10);
        Check.due("it can be used", x.pass(1), 0);
    }

    /** "behind load() the time is 0, too", and none of what was late before is late again. */
    private static void timeBehindLoad() {
        ReviewTable x = Check.loaded(TWO + "rows 1 size 1;");
        x.takeRow(0, 0);
        x.pass(99);
        Check.due("load", Check.load(x, TWO + "rows 1 size 1;"), 2);
        Check.due("time", x.property(2), 0);
        Check.due("due by the new time", x.takeRow(0, 0), 5);
        x.undo();
        x.undo();
        Check.due("time of before", x.property(2), 99);
    }

    /** "On success everything but the two slots and the output buffer is that of the text." */
    private static void successfulLoad() {
        ReviewTable x = busy();
        Check.load(x, "x");
        String text = "table tolerance 1 patience 2 least 3;worker z team 1 quota 2;rows 2 size 3;worker y team 2 quota 1;";
        Check.due("load", Check.load(x, text), 2);
        Check.due("as a new table", Check.told(x), Check.told(Check.loaded(text)));
        Check.due("time", x.property(2), 0);
        Check.due("the parse error", x.errorCode(), 0);
        Check.due("its position", x.errorPosition(), -1);
        Check.due("the output", Check.written(x), "f50* o o");
        Check.due("the slot", x.restore(0), 3);
        Check.due("what was kept", Check.rowsText(x), "f50* o o");
    }

    /** errorCode() and errorPosition(): "0 if it had none or there was no load()", of the last load() only. */
    private static void lastParseError() {
        ReviewTable x = new ReviewTable();
        Check.due("no load: code", x.errorCode(), 0);
        Check.due("no load: position", x.errorPosition(), -1);
        Check.load(x, "table #");
        Check.due("code", x.errorCode(), 1);
        Check.due("position", x.errorPosition(), 6);
        Check.put(x, "a");
        x.find();
        x.append(0, 0, 0, 0, 0);
        x.truncate(0);
        x.pass(1);
        x.undo();
        x.keep(0);
        x.restore(0);
        x.addRows(1, 1);
        Check.noState("addRows(24,1)", () -> x.addRows(24, 1));
        Check.due("code, nothing else changes it", x.errorCode(), 1);
        Check.due("position, nothing else changes it", x.errorPosition(), 6);
        Check.load(x, "table tolerance 99");
        Check.due("code of the next", x.errorCode(), 2);
        Check.due("position of the next", x.errorPosition(), 16);
        Check.load(x, HEAD);
        Check.due("code of a good one", x.errorCode(), 0);
        Check.due("position of a good one", x.errorPosition(), -1);
    }

    /** "Returns the number of workers": none, one and six. */
    private static void loadAnswers() {
        ReviewTable x = new ReviewTable();
        Check.due("no worker", Check.load(x, HEAD), 0);
        Check.due("one worker", Check.load(x, HEAD + "worker a team 0 quota 1;"), 1);
        Check.due("six workers", Check.load(x, SIX), 6);
        Check.due("no worker again", Check.load(x, HEAD + "rows 24 size 1;"), 0);
    }

    /** "Finds the worker whose name is the whole content of the input buffer, byte by byte." */
    private static void findWhole() {
        ReviewTable x = Check.loaded(HEAD + "worker abc team 0 quota 1;worker ab team 0 quota 1;worker abcdef team 0 quota 1;"
                + "worker z team 0 quota 1;worker abd team 0 quota 1;worker zz team 0 quota 1;");
        String[] names = {"abc", "ab", "abcdef", "z", "abd", "zz"};
        for (int i = 0; i < names.length; i++) {
            Check.put(x, names[i]);
            Check.due("find " + names[i], x.find(), i);
        }
        String[] others = {"a", "abcd", "abcdefg", "abcdefabcdef", "zzz", "y", " z", "z ", "z\n", "z;", "Z", "\0", "z\0",
            "\0z", "abc abd", "" + (char) 250, "" + (char) ('z' + 128), "table", filled("z", 500), repeated("z", 500)};
        for (String name : others) {
            Check.put(x, name);
            Check.due("find of no name, " + name.length() + " bytes", x.find(), -1);
        }
    }

    /** "The buffer is empty afterwards", found or not; an empty one is no name. */
    private static void findEmptiesTheBuffer() {
        ReviewTable x = new ReviewTable();
        Check.due("find of an empty buffer, no workers", x.find(), -1);
        Check.put(x, "a");
        Check.due("find without workers", x.find(), -1);
        Check.due("append behind it", x.append(0, 0, 0, 0, 0), 20);
        x.truncate(0);
        Check.load(x, TWO);
        Check.due("find of an empty buffer", x.find(), -1);
        Check.put(x, "b");
        Check.due("find b", x.find(), 1);
        Check.due("find again", x.find(), -1);
        Check.due("append behind it", x.append(0, 0, 0, 0, 0), 20);
        Check.due("undoCount", x.undoCount(), 1);
    }

    public static void main(String[] args) {
        atMost500Bytes();
        refusedAppend();
        placesOfBytes();
        truncateRange();
        truncateCuts();
        lettersOfWords();
        digitsOfNumbers();
        lengthsOfNumbers();
        otherBytes();
        blanks();
        oneStatement();
        semicolons();
        tableFirstAndOnce();
        orderOfWords();
        rangesOfTheTable();
        rangesOfWorkers();
        rangesOfRows();
        lengthsOfNames();
        keywordsAreNoNames();
        atMostSixWorkers();
        differentNames();
        atMost24Rows();
        pairsTold();
        unknownNames();
        pairsToldTwice();
        smallestCode();
        firstError();
        positions();
        loadEmptiesTheBuffer();
        failedLoad();
        beforeTheFirstLoad();
        timeBehindLoad();
        successfulLoad();
        lastParseError();
        loadAnswers();
        findWhole();
        findEmptiesTheBuffer();
        Check.finish("TextBoundaryTest");
    }
}
