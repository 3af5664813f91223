/** The edges of SEEN numbers, FLEETS and DAYS, of STATUS and of AN IMAGE. */
final class EdgesOfMarkets {
    private static final long MOST = 1_000_000_000_000L;
    private static final int NONE = MeshWaters.NONE;
    private static final String NETS = "salted 2;salted 3;salted 5;";
    // What is drawn of 32768 by seed 1, day by day.
    private static final int[] DRAWN = {16838, 5758, 10113, 17515, 31051, 5627, 23010, 7419, 16212, 4086};
    // On the first day by this seed all of bits 16 to 30 are 1.
    private static final int SEED_OF_ONES = 24884;

    private EdgesOfMarkets() {
    }

    @Says("SEEN on a market were numbers (at most 12).")
    static void seenAtMostTwelve() {
        MeshWaters x = new MeshWaters();
        for (int i = 1; i <= 12; i++) {
            Check.due("see", i, x.see(i));
        }
        Check.due("the 13th", NONE, x.see(13));
        Check.due("the 13th, as another", NONE, x.see(1));
        Check.due("SEEN", 12, x.count(10));
        x.forget();
        Check.due("the first anew", 1, x.see(13));
    }

    private static void fits(MeshWaters x, int many, int least, int poached) {
        Check.due("how many fit", many, x.fits(0));
        Check.due("the least", least, x.fits(1));
        Check.due("POACHED", poached, x.fits(2));
    }

    @Says("FITS: SETS by SOME of whose NETS all SEEN ones are caught, every NET of them catching one at least: how many; the least as bits;")
    static void whatFits() {
        MeshWaters x = Check.of(NETS);
        // The empty SET catches all of none, and any NET would catch none.
        fits(x, 1, 0, 0);
        x.see(4);
        fits(x, 1, 1, 0);
        x.see(6);
        // NET 1 catches 6, so it may be there or not.
        fits(x, 2, 1, 0);
        x.see(15);
        fits(x, 3, 3, 0);
        x.see(7);
        fits(x, 0, NONE, 1);
        MeshWaters y = Check.of(NETS);
        y.see(30);
        fits(y, 7, 1, 0);
        y.see(9);
        fits(y, 4, 2, 0);
        y.waters(1, 5);
        fits(y, 4, 2, 0);
        MeshWaters none = new MeshWaters();
        fits(none, 1, 0, 0);
        none.see(1);
        fits(none, 0, NONE, 1);
        MeshWaters eight = Check.of("salted 2;salted 2;salted 2;salted 2;salted 2;salted 2;salted 2;salted 2;");
        eight.see(MOST);
        fits(eight, 255, 1, 0);
    }

    @Says("POACHED: how many SEEN ones no NET catches.")
    static void howManyArePoached() {
        MeshWaters x = Check.of(NETS);
        x.see(7);
        x.see(7);
        x.see(8);
        x.see(49);
        fits(x, 0, NONE, 3);
        MeshWaters y = Check.of(NETS);
        for (int i = 0; i < 12; i++) {
            y.see(i < 11 ? 10 : 11);
        }
        fits(y, 0, NONE, 1);
        MeshWaters z = new MeshWaters();
        for (int i = 1; i <= 12; i++) {
            z.see(i);
        }
        fits(z, 0, NONE, 12);
    }

    private static void fleets(String text, int many, int first) {
        MeshWaters x = Check.of(text);
        Check.due("how many rest, " + text, many, x.fleets(0));
        Check.due("the first, " + text, first, x.fleets(1));
    }

    @Says("FLEETS: two, each lowers one NET: each gets what its NET catches in THE WATERS,"
        + " but of what both catch (all of it, if it is the same NET) the half, cut down.")
    static void whatEachFleetGets() {
        // Both by NET 0: 2 of 5 each. NET 1 would give 2 and 3.
        fleets("mesh 10 1 from 1 to 41;mesh 10 2 from 1 to 12;", 3, 0);
        fleets("mesh 10 1 from 1 to 41;mesh 10 2 from 1 to 22;", 2, 1);
        // Both by NET 0: 3 of 6 each.
        fleets("mesh 10 1 from 1 to 51;mesh 10 2 from 1 to 22;", 3, 0);
        fleets("mesh 10 1 from 1 to 51;mesh 10 2 from 1 to 32;", 2, 1);
        // NET 1 by itself gives 6, but the half of it when NET 0, which catches all of them, is lowered too.
        fleets("mesh 2 1 from 1 to 19;mesh 2 1 from 1 to 11;", 1, 0);
        // Both by NET 0: 5 of 10 each. NET 1 beside it gives the half, cut down, of 5, and 3 (then 4) that only it catches.
        fleets("mesh 5 0 from 5 to 50;mesh 5 0 from 30 to 65;", 3, 0);
        fleets("mesh 5 0 from 5 to 50;mesh 5 0 from 30 to 70;", 2, 1);
        // Not caught in THE WATERS: nothing.
        MeshWaters x = Check.of("mesh 10 1 from 1 to 41;mesh 10 2 from 1 to 22;");
        x.waters(1, 12);
        Check.due("two of NET 0 and two of NET 1", 2, x.fleets(0));
        x.waters(5000, 6000);
        Check.due("nothing at all", 4, x.fleets(0));
    }

    @Says("A couple RESTS if neither gets more by another NET, the other one's as it is: how many; the first, by the first one's NET, then the second's.")
    static void whichCouplesRest() {
        fleets("", 0, NONE);
        fleets("week 1;", 1, 0);
        fleets("week 1;week 2;", 2, 1);
        // NET 1 catches nothing.
        fleets("mesh 10 1 from 1 to 41;mesh 10 2 from 1 to 1;mesh 10 3 from 3 to 23;", 2, 2);
        fleets("mesh 10 2 from 1 to 1;mesh 10 1 from 1 to 41;mesh 10 3 from 3 to 23;", 2, 12);
        // All alike, and nothing to get: each couple.
        fleets("mesh 10 2 from 1 to 1;mesh 10 2 from 1 to 1;mesh 10 2 from 1 to 1;", 9, 0);
        fleets("week 0 from 1 to 1;week 0 from 1 to 1;week 0 from 1 to 1;week 0 from 1 to 1;week 0 from 1 to 1;week 0 from 1 to 1;"
            + "week 0 from 1 to 1;salted 2;", 1, 77);
    }

    @Says("A couple RESTS if neither gets more by another NET, the other one's as it is: how many; the first, by the first one's NET, then the second's.")
    static void whereThereAreNetsACoupleRests() {
        // Who gets more by another NET makes as much more of what the two NETS catch by themselves, added up, less the greater
        // half of what both catch. That can't go on and on: there is a couple that rests.
        for (int seed = 0; seed < 400; seed++) {
            MeshWaters x = new MeshWaters();
            Check.sea(x, new TextMaker(9000 + seed).text());
            for (int high = 1; high <= 100_000; high *= 10) {
                x.waters(1, high);
                boolean nets = x.count(2) > 0;
                Check.due("a couple rests, seed " + seed + " to " + high, nets, x.fleets(0) > 0);
                Check.due("a first couple, seed " + seed + " to " + high, nets, x.fleets(1) != NONE);
            }
        }
    }

    /** What is caught on each of the days by seed 1 from LOW on, when so many numbers are drawn of. */
    private static void drawn(MeshWaters x, long low, long many) {
        int even = 0;
        int odd = 0;
        for (int day = 0; day < DRAWN.length; day++) {
            long number = low + DRAWN[day] % many;
            even += number % 2 == 0 ? 1 : 0;
            odd += number % 2 == 0 ? 0 : 1;
            Check.due("even, day " + day + " of " + many, even, x.days(1, day + 1, 0));
            Check.due("odd, day " + day + " of " + many, odd, x.days(1, day + 1, NONE));
        }
    }

    @Says("DAYS by a seed (0 to 300):")
    static void daysUpToThreeHundred() {
        MeshWaters x = Check.of("salted 2;");
        Check.illegal("-1", () -> x.days(1, -1, 0));
        Check.due("0", 0, x.days(1, 0, 0));
        Check.due("0, none", 0, x.days(1, 0, NONE));
        Check.due("1", 1, x.days(1, 1, 0) + x.days(1, 1, NONE));
        Check.due("300", 300, x.days(1, 300, 0) + x.days(1, 300, NONE));
        Check.illegal("301", () -> x.days(1, 301, 0));
        Check.illegal("301, none", () -> x.days(1, 301, NONE));
    }

    @Says("each day a number of THE WATERS is drawn: LOW and a DRAW of how many there are, but of 32768 at most:")
    static void eachDayANumberIsDrawn() {
        MeshWaters x = Check.of("salted 2;");
        long[][] waters = {{7, 7}, {10, 11}, {11, 20}, {1, 1000}, {5, 32771}, {5, 32772}, {5, 32773}, {1, MOST}, {MOST - 1, MOST}, {MOST - 99999, MOST}};
        for (long[] of : waters) {
            x.waters(of[0], of[1]);
            drawn(x, of[0], Math.min(32768, of[1] - of[0] + 1));
        }
        // The last number, the last one but one, and no number beyond 32768.
        MeshWaters y = Check.of("mesh 2 0 from 4 to 4;ending 4 2768;");
        y.waters(4, 4);
        Check.due("the only number", 1, y.days(SEED_OF_ONES, 1, 0));
        y.waters(1, 32767);
        Check.due("32767 MOD 32767 is 0: 1", 1, y.days(SEED_OF_ONES, 1, NONE));
        y.waters(1, 32768);
        Check.due("the last number", 1, y.days(SEED_OF_ONES, 1, 1));
        y.waters(1, 32769);
        Check.due("the last number but one", 1, y.days(SEED_OF_ONES, 1, 1));
        y.waters(1, MOST);
        Check.due("of 32768 at most", 1, y.days(SEED_OF_ONES, 1, 1));
    }

    @Says("how often a NET catches it (LOWERED or not); how often none does.")
    static void howOftenANetCatches() {
        MeshWaters x = Check.of("salted 2;mesh 2 1 from 1 to 5;salted 2;");
        x.waters(1, 10);
        int[] due = new int[3];
        for (int draw : DRAWN) {
            int number = 1 + draw % 10;
            due[number % 2 == 0 ? 0 : number <= 5 ? 1 : 2]++;
        }
        for (int again = 0; again < 2; again++) {
            Check.due("NET 0", due[0], x.days(1, 10, 0));
            Check.due("NET 1", due[1], x.days(1, 10, 1));
            Check.due("NET 2, as NET 0", due[0], x.days(1, 10, 2));
            Check.due("none", due[2], x.days(1, 10, NONE));
            x.lower(0, true);
            x.lower(1, true);
        }
        Check.due("without NETS none does", 300, new MeshWaters().days(1, 300, NONE));
    }

    @Says("A seed becomes itself times 1103515245 and 12345 (an int that wraps); a DRAW of n is its bits 16 to 30 MOD n then.")
    static void aSeedAndItsDraws() {
        MeshWaters x = Check.of("salted 3;");
        x.waters(1, 3000);
        int[] seeds = {0, 1, -1, 2, 77, 24884, 12345, -12345, Integer.MAX_VALUE, Integer.MIN_VALUE};
        for (int seed : seeds) {
            // The same without wrapping and without signs.
            long now = seed & 0xffffffffL;
            int due = 0;
            for (int day = 1; day <= 20; day++) {
                now = (now * 1103515245L + 12345L) % 4294967296L;
                due += (1 + now / 65536 % 32768 % 3000) % 3 == 0 ? 1 : 0;
                Check.due("seed " + seed + ", day " + day, due, x.days(seed, day, 0));
            }
        }
    }

    private static void status(MeshWaters x, int texts, int acts, int numbers) {
        Check.due("STATUS 0", texts, x.count(12));
        Check.due("STATUS 1", acts, x.count(13));
        Check.due("STATUS 2", numbers, x.count(14));
    }

    @Says("STATUS: how many calls were refused: 0 TEXTS with a FAULT, 1 ACTS, 2 numbers that are WISHED, UNWISHED, SEEN"
        + " (not counted where an exception tells it).")
    static void statusOfWhatWasRefused() {
        MeshWaters x = Check.of(NETS);
        status(x, 0, 0, 0);
        Check.sea(x, "x");
        status(x, 1, 0, 0);
        Check.sea(x, "week 9;");
        status(x, 2, 0, 0);
        x.waters(0, 5);
        status(x, 2, 1, 0);
        x.lower(0, false);
        status(x, 2, 2, 0);
        x.years(0);
        status(x, 2, 3, 0);
        x.wish(0, true);
        status(x, 2, 3, 1);
        x.wish(0, false);
        status(x, 2, 3, 2);
        x.see(0);
        status(x, 2, 3, 3);
        x.wish(5, true);
        x.wish(5, true);
        status(x, 2, 3, 4);
        Check.noSuch("lower 3", () -> x.lower(3, true) ? 1 : 0);
        Check.illegal("sea 1", () -> x.sea(1));
        Check.illegal("nets 0", () -> x.nets(0));
        Check.illegal("mesh 1", () -> x.mesh(1));
        Check.illegal("days 301", () -> x.days(1, 301, 0));
        x.forget();
        x.undo();
        x.undo();
        x.waters(1, 5);
        x.years(1);
        x.lower(0, true);
        x.see(1);
        for (int i = 0; i < 26; i++) {
            x.feed(0, 0, 0, 0, 0);
        }
        x.restore();
        x.next(7, 9999);
        x.fewest();
        status(x, 2, 3, 4);
        Check.due("a SEA without a FAULT", 0, x.sea(0));
        status(x, 2, 3, 4);
    }

    /** An object of which all that an IMAGE keeps is not as at first. */
    private static MeshWaters full() {
        MeshWaters x = Check.of(NETS + "places 9;pond 0;spawns before;");
        x.waters(5, 50);
        x.lower(1, true);
        x.years(3);
        x.wish(6, true);
        x.wish(7, false);
        x.see(8);
        x.waters(0, 0);
        x.see(0);
        Check.sea(x, "?");
        return x;
    }

    @Says("AN IMAGE keeps THE WATERS, what is LOWERED, THE POND, ACTS that are kept, numbers WISHED, UNWISHED, SEEN, STATUS.")
    static void whatAnImageKeeps() {
        MeshWaters x = full();
        String due = Check.state(x);
        x.image();
        // Whatever it kept is written over: each ACT by one of another sort, each number by another one.
        while (x.undo() > 0) {
            Check.due("ACTS are left", true, x.count(7) > 0);
        }
        x.years(4);
        x.waters(1, 2);
        x.lower(2, true);
        x.lower(0, true);
        x.forget();
        x.wish(1, false);
        x.wish(2, true);
        x.wish(3, true);
        x.see(5);
        x.see(3);
        x.waters(0, 0);
        x.see(0);
        Check.sea(x, "?");
        Check.due("restore", true, x.restore());
        Check.due("all is as it was: " + due, true, due.equals(Check.state(x)));
        Check.due("the FEWEST", 1, x.fewest());
        Check.due("WISHED and UNWISHED", NONE, x.wish(6, false));
        Check.due("WISHED and UNWISHED", NONE, x.wish(7, true));
        Check.due("FITS", 1, x.fits(0));
        Check.due("the least that fits", 1, x.fits(1));
        Check.due("THE HAUL", 15, x.haul());
        Check.due("undo the YEARS", 2, x.undo());
        Check.due("PLACE 0", true, x.pond(0));
        Check.due("YEARS", 0, x.count(6));
        Check.due("undo what was LOWERED", 1, x.undo());
        Check.due("LOWERED", 0, x.count(3));
        Check.due("undo THE WATERS", 0, x.undo());
        Check.due("HIGH", 1000, x.count(1));
        Check.due("restore once more", true, x.restore());
        Check.due("all is as it was: " + due, true, due.equals(Check.state(x)));
    }
}
