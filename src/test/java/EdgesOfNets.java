/** The edges of THE WATERS, of NETS and their kinds, and of how many PLACES there are. */
final class EdgesOfNets {
    private static final long MOST = 1_000_000_000_000L;
    private static final int NONE = MeshWaters.NONE;
    private static final String EIGHT = "week 0;week 1;week 2;week 3;week 4;week 5;week 6;salted 2;";

    private EdgesOfNets() {
    }

    /** That the only NET of a text catches the one number and not the other. */
    private static void catches(String text, long in, long out) {
        MeshWaters x = Check.of(text);
        Check.due(text + " catches " + in, 1, x.nets(in));
        Check.due(text + " lets through " + out, 0, x.nets(out));
    }

    private static void net(String text, long kind, long mesh, long rest) {
        MeshWaters x = Check.of(text);
        Check.due("KIND of " + text, kind, x.net(0, 0));
        Check.due("MESH of " + text, mesh, x.net(0, 1));
        Check.due("REST of " + text, rest, x.net(0, 2));
    }

    @Says("THE WATERS are all numbers from LOW to HIGH")
    static void watersHoldBothEnds() {
        MeshWaters x = new MeshWaters();
        x.waters(7, 9);
        Check.due("all", 3, x.all(0));
        Check.due("the first", 7, x.next(0, 6));
        Check.due("the last", 9, x.next(0, 9));
        Check.due("behind the last", NONE, x.next(0, 10));
    }

    @Says("(1 to 10 to the power of 12,")
    static void watersFromOneToTheMost() {
        MeshWaters x = new MeshWaters();
        Check.due("LOW 0", false, x.waters(0, 5));
        Check.due("LOW -1", false, x.waters(-1, 5));
        Check.due("LOW 1", true, x.waters(1, 5));
        Check.due("HIGH too much by 1", false, x.waters(5, MOST + 1));
        Check.due("HIGH the most", true, x.waters(5, MOST));
        Check.due("both too much by 1", false, x.waters(MOST + 1, MOST + 1));
        Check.due("both the most", true, x.waters(MOST, MOST));
        Check.due("both 0", false, x.waters(0, 0));
        Check.due("both 1", true, x.waters(1, 1));
    }

    @Says("LOW no more than HIGH;")
    static void watersLowNoMoreThanHigh() {
        MeshWaters x = new MeshWaters();
        Check.due("more by 1", false, x.waters(6, 5));
        Check.due("alike", true, x.waters(5, 5));
        Check.due("less by 1", true, x.waters(4, 5));
        Check.due("the other way round", false, x.waters(MOST, 1));
    }

    @Says("1 to 1000 at first).")
    static void watersAtFirst() {
        MeshWaters x = new MeshWaters();
        Check.due("LOW", 1, x.count(0));
        Check.due("HIGH", 1000, x.count(1));
        Check.due("all", 1000, x.all(0));
        x.waters(5, 6);
        Check.sea(x, "week 1;");
        Check.due("LOW anew", 1, x.count(0));
        Check.due("HIGH anew", 1000, x.count(1));
    }

    @Says("NETS 0, 1 .. (at most 8):")
    static void netsAtMostEight() {
        MeshWaters none = Check.of("");
        Check.due("no NETS", 0, none.count(2));
        Check.noSuch("NET 0 of none", () -> none.net(0, 0));
        MeshWaters one = Check.of("week 6;");
        Check.due("NET 0 of one", 6, one.net(0, 2));
        Check.noSuch("NET 1 of one", () -> one.net(1, 2));
        MeshWaters eight = Check.of(EIGHT);
        Check.due("eight NETS", 8, eight.count(2));
        Check.due("NET 7 of eight", 2, eight.net(7, 1));
        Check.noSuch("NET 8 of eight", () -> eight.net(8, 1));
        Check.fault(2, EIGHT.length(), EIGHT + "week 1;");
    }

    @Says("a KIND (0 mesh, 1 twos, 2 ending, 3 week, 4 salted), by which it has a MESH and a REST;")
    static void kindsOfNets() {
        net("mesh 9 4;", 0, 9, 4);
        net("twos 3;", 1, 16, 8);
        net("ending 3 45;", 2, 1000, 45);
        net("week 4;", 3, 7, 4);
        net("salted 12;", 4, 12, 0);
    }

    @Says("FROM, TO (1 to 9999,")
    static void fromAndToUpTo9999() {
        Check.right("week 1 from 1 to 1;");
        Check.fault(2, 12, "week 1 from 0 to 1;");
        Check.right("week 1 from 9999 to 9999;");
        Check.fault(2, 12, "week 1 from 10000 to 10000;");
        Check.fault(2, 17, "week 1 from 1 to 10000;");
        Check.fault(2, 17, "week 1 from 1 to 0;");
        MeshWaters x = Check.of("week 1 from 1 to 9999;");
        Check.due("FROM", 1, x.net(0, 3));
        Check.due("TO", 9999, x.net(0, 4));
    }

    @Says("FROM no more than TO;")
    static void fromNoMoreThanTo() {
        Check.right("week 1 from 50 to 50;");
        Check.right("week 1 from 50 to 51;");
        Check.fault(2, 18, "week 1 from 50 to 49;");
    }

    @Says("without them 1 to 10 to the power of 12):")
    static void withoutFromAndTo() {
        MeshWaters x = Check.of("salted 2;");
        Check.due("FROM", 1, x.net(0, 3));
        Check.due("TO", MOST, x.net(0, 4));
        Check.due("the most is caught", 1, x.nets(MOST));
        MeshWaters y = Check.of("mesh 2 1;");
        Check.due("1 is caught", 1, y.nets(1));
        x.waters(MOST, MOST);
        Check.due("all", 1, x.all(1));
    }

    @Says("it catches a number from FROM to TO whose remainder by MESH is REST.")
    static void whatANetCatches() {
        catches("salted 2 from 10 to 20;", 10, 8);
        catches("salted 2 from 10 to 20;", 20, 22);
        catches("salted 2 from 10 to 20;", 14, 15);
        catches("salted 2 from 9 to 21;", 10, 9);
        catches("salted 2 from 9 to 21;", 20, 21);
        catches("mesh 9 8 from 8 to 8;", 8, 17);
        MeshWaters x = Check.of("salted 2 from 10 to 20;");
        Check.due("all", 6, x.all(1));
        x.waters(11, 19);
        Check.due("between the ends", 4, x.all(1));
        x.waters(1, 9);
        Check.due("below FROM", 0, x.all(1));
        x.waters(21, 99);
        Check.due("above TO", 0, x.all(1));
        x.waters(20, 99);
        Check.due("from TO on", 1, x.all(1));
        x.waters(1, 10);
        Check.due("up to FROM", 1, x.all(1));
    }

    @Says("mesh: as told (2 to 999; 0 to MESH less 1).")
    static void meshAsTold() {
        net("mesh 2 0;", 0, 2, 0);
        net("mesh 2 1;", 0, 2, 1);
        net("mesh 999 998;", 0, 999, 998);
        Check.fault(2, 5, "mesh 1 0;");
        Check.fault(2, 5, "mesh 0 0;");
        Check.fault(2, 5, "mesh 1000 0;");
        Check.fault(2, 7, "mesh 2 2;");
        Check.fault(2, 9, "mesh 999 999;");
        catches("mesh 999 998;", 1997, 1998);
        catches("mesh 2 0;", 2, 1);
    }

    @Says("twos of K (0 to 20): MESH is 2 to the power of K and 1, REST 2 to the power of K.")
    static void twosOfK() {
        net("twos 0;", 1, 2, 1);
        net("twos 1;", 1, 4, 2);
        net("twos 20;", 1, 2097152, 1048576);
        Check.fault(2, 5, "twos 21;");
        Check.fault(2, 5, "twos 32;");
        Check.fault(2, 5, "twos 9999;");
        catches("twos 0;", 1, 2);
        catches("twos 20;", 1048576, 2097152);
        catches("twos 20;", 3145728, 524288);
    }

    @Says("ending in P figures E (1 to 4; E below 10 to the power of P): MESH is 10 to the power of P, REST E.")
    static void endingInFigures() {
        net("ending 1 0;", 2, 10, 0);
        net("ending 1 9;", 2, 10, 9);
        net("ending 2 99;", 2, 100, 99);
        net("ending 3 999;", 2, 1000, 999);
        net("ending 4 9999;", 2, 10000, 9999);
        Check.fault(2, 7, "ending 0 0;");
        Check.fault(2, 7, "ending 5 0;");
        Check.fault(2, 9, "ending 1 10;");
        Check.fault(2, 9, "ending 2 100;");
        Check.fault(2, 9, "ending 3 1000;");
        Check.fault(2, 9, "ending 4 10000;");
        catches("ending 4 9999;", 19999, 9998);
        catches("ending 2 5;", 105, 115);
    }

    @Says("week of a DAY (0 to 6): MESH 7, REST DAY.")
    static void weekOfADay() {
        net("week 0;", 3, 7, 0);
        net("week 6;", 3, 7, 6);
        Check.fault(2, 5, "week 7;");
        catches("week 0;", 7, 6);
        catches("week 6;", 6, 7);
    }

    @Says("salted of M (2 to 999): MESH M, REST 0.")
    static void saltedOfM() {
        net("salted 2;", 4, 2, 0);
        net("salted 999;", 4, 999, 0);
        Check.fault(2, 7, "salted 1;");
        Check.fault(2, 7, "salted 0;");
        Check.fault(2, 7, "salted 1000;");
        catches("salted 999;", 999, 998);
    }

    @Says("THE POND has PLACES 0 to PLACES less 1 (2 to 60; 30 without), some of which are TAKEN, and a rule by which they SPAWN, YEAR by YEAR.")
    static void placesOfThePond() {
        int[] many = {2, 3, 30, 59, 60};
        for (int places : many) {
            MeshWaters x = Check.of("places " + places + ";pond 0 " + (places - 1) + ";");
            Check.due("PLACES", places, x.count(4));
            Check.due("the first", true, x.pond(0));
            Check.due("the last", true, x.pond(places - 1));
            Check.noSuch("behind the last of " + places, () -> x.pond(places) ? 1 : 0);
        }
        Check.fault(2, 7, "places 1;");
        Check.fault(2, 7, "places 0;");
        Check.fault(2, 7, "places 61;");
        MeshWaters x = Check.of("pond 29;");
        Check.due("PLACES without", 30, x.count(4));
        Check.noSuch("PLACE 30 of 30", () -> x.pond(30) ? 1 : 0);
        Check.fault(2, 5, "pond 30;");
        Check.sea(x, "places 5;");
        Check.sea(x, "week 1;");
        Check.due("PLACES without, anew", 30, x.count(4));
    }
}
