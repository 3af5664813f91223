/** The edges of a YEAR of THE POND, of AS IT WAS, and of ENDS. */
final class EdgesOfPonds {
    private static final int NONE = MeshWaters.NONE;

    private EdgesOfPonds() {
    }

    private static void round(MeshWaters x, int first, int later) {
        Check.due("the first YEAR", first, x.round(0));
        Check.due("how many later", later, x.round(1));
    }

    @Says("A YEAR of THE POND: a PLACE is TAKEN behind it if its EXPR holds by what is ahead of it (without a rule all stay);")
    static void aYearByWhatIsAheadOfIt() {
        // Were one PLACE changed ahead of the next, the first would be passed on at once.
        Check.pond("places 5;pond 0;spawns before;", 1, 1);
        Check.pond("places 5;pond 4;spawns after;", 1, 3);
        Check.pond("places 5;pond 0 1;spawns all=2 and not in;", 1, 2, 3, 4);
        Check.pond("places 5;pond 0 4;", 1, 0, 4);
        Check.pond("places 5;pond 0 4;", 200, 0, 4);
        Check.pond("places 5;", 1);
        Check.pond("places 5;pond 0 4;spawns 0;", 1);
        Check.pond("places 5;pond 0;spawns 1;", 1, 0, 1, 2, 3, 4);
    }

    @Says("'year' is how many there were.")
    static void yearIsHowManyThereWere() {
        MeshWaters x = Check.of("places 5;spawns place=year;");
        Check.due("none was", 1, x.years(1));
        Check.due("pond 0", true, x.pond(0));
        x.years(1);
        Check.due("one was", true, x.pond(1));
        x.years(3);
        Check.due("four were", true, x.pond(4));
        Check.due("five were", 0, x.years(1));
        x.undo();
        Check.due("four were again", true, x.pond(4));
        x.undo();
        x.years(2);
        Check.due("three were, behind an ACT undone", true, x.pond(3));
        Check.sea(x, "places 5;spawns place=year;");
        x.years(1);
        Check.due("none was, anew", true, x.pond(0));
    }

    @Says("AS IT WAS: from now on, the first YEAR (0 on: behind how many) whose PLACES come again in a later one,"
        + " and how many YEARS later for the first time")
    static void theFirstYearThatComesAgain() {
        round(new MeshWaters(), 0, 1);
        round(Check.of("pond 3;"), 0, 1);
        round(Check.of("places 9;pond 0;spawns not in;"), 0, 2);
        round(Check.of("places 60;pond 0;spawns before;"), 0, 60);
        round(Check.of("places 60;pond 0 30;spawns before;"), 0, 30);
        round(Check.of("places 9;pond 0;spawns 0;"), 1, 1);
        MeshWaters x = Check.of("places 9;pond 0;spawns before or in;");
        round(x, 8, 1);
        x.years(3);
        round(x, 5, 1);
        x.years(4);
        round(x, 1, 1);
        x.years(1);
        round(x, 0, 1);
        x.years(1);
        round(x, 0, 1);
    }

    @Says("(both within the next 300 YEARS;")
    static void bothWithinThreeHundredYears() {
        // 283 YEARS and a round of 17: 300.
        String v = "(3*before+3*in+3*after+2*sums+all+place)";
        round(Check.of("places 16;pond 1 2 8 13;spawns " + v + "-" + v + "/4*4<2;"), 283, 17);
        // 222 YEARS and a round of 79: 301, one too many until a YEAR has gone by.
        String w = "(before+2*in+3*after+sums+place)";
        MeshWaters x = Check.of("places 15;pond 0 5 6 13;spawns " + w + "-" + w + "/2*2<1;");
        round(x, NONE, NONE);
        x.years(1);
        round(x, 221, 79);
        x.undo();
        round(x, NONE, NONE);
        // 7 YEARS and a round of 295: 302.
        MeshWaters y = Check.of("places 15;pond 4 10;spawns (in or after) and before+in+after<3;");
        round(y, NONE, NONE);
        y.years(1);
        round(y, NONE, NONE);
        y.years(1);
        round(y, 5, 295);
    }

    @Says("'year' isn't asked for that, nor does it go on for AS IT WAS: it stays as it is now); none.")
    static void yearStaysForAsItWas() {
        MeshWaters x = Check.of("pond 3;spawns in and year<3;");
        round(x, 0, 1);
        x.years(2);
        round(x, 0, 1);
        x.years(1);
        round(x, 1, 1);
        Check.due("YEARS are as they were", 3, x.count(6));
        Check.due("the POND is as it was", 1, x.count(5));
        Check.due("no ACT", 2, x.count(7));
        MeshWaters y = Check.of("places 9;spawns place=year;");
        round(y, 1, 1);
        y.years(4);
        // The PLACE of the last YEAR, then the one of this one again and again.
        round(y, 1, 1);
    }

    @Says("ENDS: behind how many YEARS (0 to 300) no PLACE is TAKEN, as it would go on; none.")
    static void endsWithinThreeHundredYears() {
        Check.due("none is TAKEN", 0, new MeshWaters().ends());
        Check.due("none is TAKEN though some would be", 0, Check.of("spawns 1;").ends());
        Check.due("without a rule", NONE, Check.of("pond 1;").ends());
        Check.due("1", 1, Check.of("pond 1;spawns 0;").ends());
        Check.due("299", 299, Check.of("pond 1;spawns in and year<298;").ends());
        Check.due("300", 300, Check.of("pond 1;spawns in and year<299;").ends());
        Check.due("301", NONE, Check.of("pond 1;spawns in and year<300;").ends());
        MeshWaters x = Check.of("pond 1;spawns in and year<300;");
        x.years(1);
        Check.due("301, less 1", 300, x.ends());
        x.years(200);
        Check.due("301, less 201", 100, x.ends());
        Check.due("YEARS are as they were", 201, x.count(6));
        Check.due("the POND is as it was", true, x.pond(1));
        Check.due("no ACT", 2, x.count(7));
        x.years(100);
        Check.due("it has ended", 0, x.ends());
        Check.due("it ends though it begins again", 1, Check.of("pond 1;spawns year;").ends());
    }
}
