/** The edges of a TEXT: its length, its TOKENS, its LINES, and each FAULT. An @ in a text tells where its FAULT is. */
final class EdgesOfTexts {
    private static final String EIGHT = "week 0;week 1;week 2;week 3;week 4;week 5;week 6;salted 2;";

    private EdgesOfTexts() {
    }

    private static boolean isLetter(int b) {
        return b >= 97 && b <= 122;
    }

    private static boolean isDigit(int b) {
        return b >= 48 && b <= 57;
    }

    private static boolean isBlank(int b) {
        return b == 32 || b == 10;
    }

    @Says("A TEXT of at most 500 bytes tells it.")
    static void textOfAtMost500Bytes() {
        Check.right(" ".repeat(493) + "week 5;");
        Check.faulty(1, " ".repeat(493) + "week 5@");
        Check.faulty(1, " ".repeat(494) + "week 5@");
        Check.faulty(1, "week 5;" + " ".repeat(492) + "@#");
        MeshWaters x = Check.of(" ".repeat(492) + "pond 17;");
        Check.due("the last line of 500 bytes", true, x.pond(17));
    }

    @Says("TOKENS: words (a .. z, the longest row),")
    static void wordsAreTheLongestRow() {
        Check.right("week1;");
        Check.faulty(1, "@weeks 1;");
        Check.faulty(1, "@reek 1;");
        Check.faulty(1, "@weep 1;");
        Check.faulty(1, "@wek 1;");
        Check.faulty(3, "spawns @an;");
        Check.faulty(3, "spawns @if;");
        Check.faulty(1, "@wee k 1;");
        Check.faulty(1, "@Week 1;");
        Check.faulty(1, "week@`1;");
        Check.faulty(1, "week@{1;");
        Check.faulty(3, "spawns @ain;");
        Check.faulty(3, "spawns @inz;");
        Check.faulty(3, "spawns @inin;");
        Check.faulty(1, "spawns in @in;");
    }

    @Says("NUMBERS (1 to 4 digits),")
    static void numbersOfOneToFourDigits() {
        Check.right("week 0;");
        Check.right("week 0006;");
        Check.faulty(2, "week @00006;");
        Check.right("spawns 9;");
        Check.right("spawns 9999;");
        Check.faulty(2, "spawns @10000;");
        Check.faulty(1, "week 1@:;");
        Check.faulty(1, "week 1@/;");
        Check.faulty(1, "week 1 @2;");
    }

    @Says("signs ; ( ) + - * / < = ;")
    static void signsAndNoOthers() {
        for (int b = 0; b < 256; b++) {
            String text = "spawns in" + (char) b + "in;";
            if ("+-*/<=".indexOf(b) >= 0) {
                Check.right(text);
            } else if (isLetter(b)) {
                Check.fault(3, 7, text);
            } else if (b == ';' || isBlank(b)) {
                Check.fault(1, 10, text);
            } else {
                Check.fault(1, 9, text);
            }
        }
        Check.right("spawns (in);");
        Check.faulty(1, "spawns in@);");
        Check.faulty(1, "spawns (in@;");
    }

    @Says("blanks (32, 10) between them count for nothing.")
    static void blanksCountForNothing() {
        Check.right("\n mesh \n7\n\n3 ; \n");
        Check.right("  \n ");
        Check.right("week1;week2;");
        for (int b = 0; b < 256; b++) {
            String ahead = (char) b + "week 1;";
            String behind = "week 1" + (char) b + ";";
            if (isBlank(b)) {
                Check.right(ahead);
                Check.right(behind);
            } else {
                Check.fault(1, 0, ahead);
                Check.fault(isDigit(b) ? 2 : 1, isDigit(b) ? 5 : b == ';' ? 7 : 6, behind);
            }
        }
    }

    @Says("In quotes is what stands there, [ ] perhaps, * any number of times, | one of some.")
    static void perhapsAndAnyNumberOfTimes() {
        Check.right("week 1;");
        Check.right("week 1 from 2 to 3;");
        Check.faulty(1, "week 1 from 2 to 3 @from 2 to 3;");
        Check.right("pond 1;");
        Check.right("pond 1 2 3 4 5 6 7 8 9;");
        Check.right("spawns 1;");
        Check.right("spawns 1<2;");
        Check.faulty(1, "spawns 1<2@<3;");
        Check.faulty(1, "mesh @twos 7 3;");
    }

    @Says("SEA: LINE*.")
    static void anyNumberOfLines() {
        Check.due("no LINE", 0, Check.of("").count(2));
        Check.due("one LINE", 1, Check.of("week 1;").count(2));
        Check.due("two LINES", 2, Check.of("week 1;week 1;").count(2));
        Check.faulty(1, "@;");
        Check.faulty(1, "week 1;@;");
    }

    @Says("LINE: (('mesh' MESH REST | 'twos' K | 'ending' P E | 'week' DAY | 'salted' M) ['from' FROM 'to' TO] | 'places' NUMBER"
        + " | 'pond' PLACE PLACE* | 'spawns' EXPR) ';', all in capitals but EXPR being NUMBERS.")
    static void linesWithTooLittleOrTooMuch() {
        Check.right("mesh 7 3;twos 2;ending 2 5;week 1;salted 9;places 9;pond 1;spawns in;");
        Check.faulty(1, "mesh 7@;");
        Check.faulty(1, "mesh 7 3 @1;");
        Check.faulty(1, "twos@;");
        Check.faulty(1, "twos 2 @1;");
        Check.faulty(1, "ending 2@;");
        Check.faulty(1, "ending 2 5 @1;");
        Check.faulty(1, "week@;");
        Check.faulty(1, "week 1 @1;");
        Check.faulty(1, "salted@;");
        Check.faulty(1, "salted 9 @1;");
        Check.faulty(1, "week 1 from@;");
        Check.faulty(1, "week 1 from 2@;");
        Check.faulty(1, "week 1 from 2 @3;");
        Check.faulty(1, "week 1 from 2 to@;");
        Check.faulty(1, "week 1 from 2 to 3 @4;");
        Check.faulty(1, "week 1 @to 3 from 2;");
        Check.faulty(1, "places@;");
        Check.faulty(1, "places 9 @9;");
        Check.faulty(1, "places 9 @from 1 to 2;");
        Check.faulty(1, "pond@;");
        Check.faulty(1, "pond 1 @from 1 to 2;");
        Check.faulty(1, "spawns@;");
        Check.faulty(1, "spawns in @from 1 to 2;");
        Check.faulty(1, "week 1@");
        Check.faulty(1, "week @in;");
        Check.faulty(1, "week @(1);");
        Check.faulty(1, "pond @-1;");
    }

    @Says("FAULTS, the first along the text,")
    static void theFirstFaultAlongTheText() {
        Check.faulty(2, "week @9;week 9;");
        Check.faulty(2, "mesh @1 x");
        Check.faulty(1, "mesh @x 12345;");
        Check.faulty(4, "pond 3 @3 99;");
        Check.faulty(2, "pond 3 @99 3;");
        Check.faulty(4, "places 9;pond 1 @1;places 5;");
        Check.faulty(3, "spawns @foo;spawns in;");
        Check.faulty(5, "spawns in;@spawns foo;");
        Check.faulty(6, "pond 1;@places 99;");
    }

    @Says("at a TOKEN's first byte,")
    static void atTheFirstByteOfAToken() {
        Check.faulty(1, "   @weekly 1;");
        Check.faulty(2, "week \n @12345;");
        Check.faulty(3, "spawns   @foobar;");
        Check.faulty(4, "pond 12  @12;");
        Check.faulty(5, "spawns in;  @spawns in;");
        Check.faulty(6, "pond 1;\n@places 9;");
        Check.faulty(2, "spawns not not not not not not  @not in;");
        Check.faulty(2, "spawns ((((((  @place");
        Check.faulty(2, EIGHT + " \n@week 1;");
    }

    @Says("of one TOKEN the least:")
    static void ofOneTokenTheLeast() {
        // 1 ahead of 2.
        Check.faulty(1, "week 1 @12345;");
        Check.faulty(1, "spawns 1 @12345;");
        Check.faulty(1, "spawns ((((((@)");
        Check.faulty(1, "spawns ((((((@;");
        Check.faulty(1, "spawns ((((((@+1");
        Check.faulty(1, EIGHT + "@12345;");
        // 1 ahead of 3.
        Check.faulty(1, "spawns in @foo;");
        // 2 ahead of 3.
        Check.faulty(2, "spawns ((((((@foo");
        Check.faulty(2, "spawns ((((((@or");
        // 2 ahead of 4: one of five digits, though TAKEN.
        Check.faulty(2, "pond 3 @00003;");
        Check.faulty(4, "pond 3 @0003;");
        // 5 ahead of 6.
        Check.faulty(5, "places 9;pond 1;@places 9;");
        Check.faulty(6, "pond 1;@places 9;");
    }

    @Says("1 a TOKEN that can't stand there, or is none")
    static void aTokenThatCannotStandThereOrIsNone() {
        Check.faulty(1, "@foo;");
        Check.faulty(1, "@from 1 to 2;");
        Check.faulty(1, "@not 1;");
        Check.faulty(1, "@in;");
        Check.faulty(1, "@7;");
        Check.faulty(1, "@(week 1);");
        Check.faulty(1, "@#");
        Check.faulty(1, "week @#1;");
        Check.faulty(1, "week 1@#;");
        Check.faulty(1, "week 1;@" + (char) 255);
        Check.faulty(1, "week 1;@" + (char) 0);
        Check.faulty(1, "spawns @#;");
        Check.faulty(1, "spawns @);");
        Check.faulty(1, "spawns @+1;");
        Check.faulty(1, "spawns @<1;");
        Check.faulty(1, "spawns @=1;");
        Check.faulty(1, "spawns @*1;");
        Check.faulty(1, "spawns 1+@-1;");
        Check.faulty(1, "spawns 1=@=1;");
        Check.faulty(1, "spawns 1<@=1;");
        Check.faulty(1, "spawns (@);");
        Check.faulty(1, "spawns (1@;");
        Check.faulty(1, "spawns (1)@);");
        Check.faulty(1, "spawns (1)@(2);");
        Check.faulty(1, "spawns 1 @not 2;");
        Check.faulty(1, "spawns in @place;");
        Check.faulty(1, "spawns not @;");
        Check.faulty(1, "spawns 1 or@;");
    }

    @Says("(the text's length where it ends too soon);")
    static void theTextsLengthWhereItEndsTooSoon() {
        String[] texts = {"mesh", "mesh 7", "mesh 7 3", "mesh 7 3 ", "mesh 7 3\n\n", "mesh 7 3 from", "mesh 7 3 from 1", "mesh 7 3 from 1 to",
            "mesh 7 3 from 1 to 2", "twos", "twos 1", "ending", "ending 1", "ending 1 1", "week", "salted", "places", "places 9", "pond",
            "pond 1", "pond 1 2  ", "spawns", "spawns not", "spawns in", "spawns in+", "spawns (", "spawns (in", "spawns in or", "spawns in and ",
            "spawns in<", "spawns in*", "spawns ((((((", "week 1;week"};
        for (String text : texts) {
            Check.fault(1, text.length(), text);
        }
        MeshWaters x = new MeshWaters();
        Check.feed(x, "week 1;week 2;");
        Check.due("the text ends though the tape does not", 1, x.sea(6));
        Check.due("place of it", 6, x.fault());
    }

    @Says("2 one that can, but is too much: a NUMBER of 5 digits or more,")
    static void aNumberOfFiveDigits() {
        Check.right("mesh 0007 0003;twos 0002;ending 0002 0005;week 0001;salted 0009 from 0001 to 0002;places 0009;pond 0001;spawns 0001;");
        Check.faulty(2, "mesh @00007 3;");
        Check.faulty(2, "mesh 7 @00003;");
        Check.faulty(2, "twos @00002;");
        Check.faulty(2, "ending @00002 5;");
        Check.faulty(2, "ending 2 @00005;");
        Check.faulty(2, "week @00001;");
        Check.faulty(2, "salted @00009;");
        Check.faulty(2, "week 1 from @00001 to 2;");
        Check.faulty(2, "week 1 from 1 to @00002;");
        Check.faulty(2, "places @00009;");
        Check.faulty(2, "pond @00001;");
        Check.faulty(2, "pond 1 @00002;");
        Check.faulty(2, "spawns @00001;");
        Check.faulty(2, "spawns 1+@00001;");
        Check.faulty(2, "week @4294967297;");
        Check.faulty(2, "week @" + "0".repeat(400) + "1;");
    }

    @Says("or (not in an EXPR) not as told (REST, E by what was told ahead; TO below FROM;")
    static void aNumberThatIsNotAsTold() {
        Check.right("spawns 0+9999;");
        Check.faulty(2, "mesh @1 0;");
        Check.faulty(2, "mesh @1000 0;");
        Check.right("mesh 5 4;");
        Check.faulty(2, "mesh 5 @5;");
        Check.right("mesh 6 5;");
        Check.faulty(2, "twos @21;");
        Check.faulty(2, "ending @0 0;");
        Check.faulty(2, "ending @5 0;");
        Check.right("ending 1 9;");
        Check.faulty(2, "ending 1 @10;");
        Check.right("ending 2 10;");
        Check.faulty(2, "week @7;");
        Check.faulty(2, "salted @1;");
        Check.faulty(2, "salted @1000;");
        Check.faulty(2, "week 1 from @0 to 9;");
        Check.faulty(2, "week 1 from 9 to @8;");
        Check.right("week 1 from 9 to 9;");
        Check.faulty(2, "places @1;");
        Check.faulty(2, "places @61;");
    }

    @Says("a PLACE that there isn't by what was told ahead),")
    static void aPlaceThatThereIsNotByWhatWasToldAhead() {
        Check.right("pond 29;");
        Check.faulty(2, "pond @30;");
        Check.right("places 5;pond 4;");
        Check.faulty(2, "places 5;pond @5;");
        Check.faulty(2, "places 5;pond 1 2 @9999;");
        Check.right("places 60;pond 59;");
        Check.faulty(2, "places 60;pond @60;");
    }

    @Says("the first TOKEN of the 9th NET,")
    static void theFirstTokenOfTheNinthNet() {
        Check.right(EIGHT);
        Check.right(EIGHT + "places 9;pond 1;spawns in;");
        for (String kind : new String[] {"mesh 7 3;", "twos 1;", "ending 1 1;", "week 1;", "salted 2;", "mesh", "twos x", "salted 1"}) {
            Check.faulty(2, EIGHT + "@" + kind);
        }
        Check.faulty(2, EIGHT + "pond 1;@week 1;");
        Check.faulty(1, EIGHT + "@foo;");
        Check.right(EIGHT.substring(7) + "week 1;");
    }

    @Says("of an EXPR within 6 others (a NUMBER, any word, a parenthesis),")
    static void theFirstTokenOfAnExprWithinSixOthers() {
        Check.right("spawns (((((1)))));");
        Check.right("spawns (((((in)))));");
        Check.right("spawns (((((not in)))));");
        Check.right("spawns (((((1)))))+(((((1)))));");
        Check.faulty(2, "spawns ((((((@1))))));");
        Check.faulty(2, "spawns ((((((@in))))));");
        Check.faulty(2, "spawns ((((((@not in))))));");
        Check.faulty(2, "spawns ((((((@foo");
        Check.faulty(2, "spawns ((((((@12345");
        Check.faulty(2, "spawns ((((((@(1)))))));");
        Check.faulty(2, "spawns (((((1+(@1))))));");
        Check.faulty(2, "spawns (((((1)+((@1");
        Check.faulty(2, "spawns (((((not (@1");
    }

    @Says("the seventh 'not' side by side;")
    static void theSeventhNotSideBySide() {
        Check.right("spawns not not not not not not in;");
        Check.faulty(2, "spawns not not not not not not @not in;");
        Check.faulty(2, "spawns in and not not not not not not @not in;");
        Check.right("spawns not not not not not not in or not not not not not not in and not in;");
        Check.right("spawns not not not not not not (not in);");
        Check.right("spawns not not not not not not (not not not not not not in);");
        Check.faulty(2, "spawns not(not not not not not not @not in);");
    }

    @Says("3 any word where a PART must stand that is no VALUE;")
    static void anyWordThatIsNoValue() {
        for (String word : new String[] {"foo", "or", "and", "mesh", "from", "pond", "spawns", "ins", "i", "places", "years"}) {
            Check.faulty(3, "spawns @" + word + ";");
            Check.faulty(3, "spawns not @" + word + ";");
            Check.faulty(3, "spawns in or @" + word + ";");
            Check.faulty(3, "spawns in and @" + word + ";");
            Check.faulty(3, "spawns in<@" + word + ";");
            Check.faulty(3, "spawns in=@" + word + ";");
            Check.faulty(3, "spawns in+@" + word + ";");
            Check.faulty(3, "spawns in-@" + word + ";");
            Check.faulty(3, "spawns in*@" + word + ";");
            Check.faulty(3, "spawns in/@" + word + ";");
            Check.faulty(3, "spawns (@" + word + ");");
            Check.faulty(1, "@" + word + "y 1;");
        }
        Check.faulty(3, "spawns 1+@not 2;");
        Check.faulty(3, "spawns 1<@not 2;");
        Check.faulty(3, "spawns 1*@not 2;");
        for (String value : new String[] {"place", "in", "before", "after", "sums", "all", "year"}) {
            Check.right("spawns " + value + ";");
            Check.right("spawns 1+" + value + ";");
        }
    }

    @Says("4 a PLACE that is TAKEN already;")
    static void aPlaceThatIsTakenAlready() {
        Check.right("pond 3 4;");
        Check.faulty(4, "pond 3 @3;");
        Check.faulty(4, "pond 3 4 5 @3;");
        Check.faulty(4, "pond 0;pond 1 @0;");
        Check.faulty(4, "places 60;pond 59;pond @59;");
        Check.faulty(4, "pond 3 @003;");
    }

    @Says("5 a second 'places', 'spawns';")
    static void aSecondPlacesOrSpawns() {
        Check.right("places 5;spawns in;");
        Check.faulty(5, "places 5;@places 5;");
        Check.faulty(5, "places 5;week 1;@places");
        Check.faulty(5, "spawns in;@spawns in;");
        Check.faulty(5, "spawns in;week 1;@spawns");
        Check.right("pond 1;pond 2;pond 3;");
    }

    @Says("6 'places' behind a 'pond' (at that word).")
    static void placesBehindAPond() {
        Check.right("places 5;pond 1;");
        Check.faulty(6, "pond 1;@places 5;");
        Check.faulty(6, "pond 1;week 1;@places");
        Check.right("spawns in;week 1;places 5;pond 1;");
    }
}
