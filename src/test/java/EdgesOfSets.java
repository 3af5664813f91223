/** The edges of SETS of NETS, of ACTS, of WISHED and UNWISHED numbers, and of finding a number. */
final class EdgesOfSets {
    private static final long MOST = 1_000_000_000_000L;
    private static final int NONE = MeshWaters.NONE;
    private static final String NETS = "salted 2;salted 3;salted 5;";
    private static final String EIGHT = "week 0;week 1;week 2;week 3;week 4;week 5;week 6;salted 2;";
    // These tell the numbers 1 to 44 from one another.
    private static final String FINDERS = "mesh 5 1;mesh 5 4 from 4 to 52;mesh 5 0;mesh 3 2;mesh 5 3 from 3 to 55;mesh 2 0 from 12 to 40;"
        + "mesh 2 1 from 15 to 71;mesh 3 1;";
    // And these 1 to 45: for none further were any found.
    private static final String WIDEST_FINDERS = "mesh 5 2;mesh 5 4;mesh 3 1;mesh 5 0;mesh 5 1;mesh 2 1 from 15 to 44;mesh 3 0;"
        + "mesh 2 0 from 16 to 45;";

    private EdgesOfSets() {
    }

    @Says("A SET is bits of NETS.")
    static void setsAreBitsOfNets() {
        MeshWaters none = new MeshWaters();
        Check.due("the empty SET of no NETS", 1000, none.all(0));
        Check.illegal("SET 1 of no NETS", () -> none.all(1));
        MeshWaters three = Check.of(NETS);
        Check.due("NET 0", 500, three.all(1));
        Check.due("NET 1", 333, three.all(2));
        Check.due("NET 2", 200, three.all(4));
        Check.due("all three", 33, three.all(7));
        Check.illegal("SET 8 of three NETS", () -> three.all(8));
        MeshWaters eight = Check.of(EIGHT);
        Check.due("all eight", 1000, eight.some(255));
        Check.due("NET 7", 500, eight.some(128));
        Check.illegal("SET 256 of eight NETS", () -> eight.some(256));
        Check.illegal("SET -1", () -> eight.some(-1));
        Check.illegal("SET of the highest bit", () -> eight.some(Integer.MIN_VALUE));
    }

    @Says("CAUGHT by a SET's NETS are numbers of THE WATERS:")
    static void caughtAreNumbersOfTheWaters() {
        MeshWaters x = Check.of(NETS);
        x.waters(6, 10);
        Check.due("both ends are caught", 3, x.all(1));
        x.waters(7, 9);
        Check.due("neither end is", 1, x.all(1));
        x.waters(7, 7);
        Check.due("none is", 0, x.some(7));
        x.waters(30, 30);
        Check.due("one is, by all", 1, x.all(7));
    }

    @Says("by ALL of them (by the empty SET every number), by SOME (one or more), by JUST k of them.")
    static void byAllBySomeByJust() {
        MeshWaters x = Check.of(NETS);
        x.waters(1, 30);
        Check.due("by ALL of none", 30, x.all(0));
        Check.due("by SOME of none", 0, x.some(0));
        Check.due("by JUST 0 of none", 30, x.just(0, 0));
        Check.due("by JUST 1 of none", 0, x.just(0, 1));
        Check.due("by ALL", 1, x.all(7));
        Check.due("by SOME", 22, x.some(7));
        long[] due = {8, 14, 7, 1, 0, 0, 0, 0, 0};
        for (int k = 0; k <= 8; k++) {
            Check.due("by JUST " + k, due[k], x.just(7, k));
        }
        Check.due("by JUST 2 of two", 5, x.just(3, 2));
        MeshWaters y = Check.of("salted 2;salted 2;salted 2;salted 2;salted 2;salted 2;salted 2;salted 2;");
        Check.due("by ALL of eight", 500, y.all(255));
        Check.due("by SOME of eight", 500, y.some(255));
        Check.due("by JUST 8", 500, y.just(255, 8));
        Check.due("by JUST 7", 0, y.just(255, 7));
        Check.due("by JUST 0", 500, y.just(255, 0));
    }

    @Says("by ALL of them (by the empty SET every number), by SOME (one or more), by JUST k of them.")
    static void caughtAsIfListed() {
        String text = "mesh 7 3;mesh 12 7;mesh 18 1;ending 2 25;twos 3;mesh 11 10 from 500 to 9000;";
        MeshWaters x = Check.of(text);
        x.waters(77, 20000);
        for (int set = 0; set < 64; set++) {
            int[] just = new int[9];
            for (int number = 77; number <= 20000; number++) {
                boolean[] by = {number % 7 == 3, number % 12 == 7, number % 18 == 1, number % 100 == 25, number % 16 == 8,
                    number % 11 == 10 && number >= 500 && number <= 9000};
                int many = 0;
                for (int net = 0; net < 6; net++) {
                    many += by[net] && (set >> net & 1) == 1 ? 1 : 0;
                }
                just[many]++;
            }
            Check.due("by ALL of " + set, just[Integer.bitCount(set)], x.all(set));
            Check.due("by SOME of " + set, 19924 - just[0], x.some(set));
            Check.due("by JUST 2 of " + set, just[2], x.just(set, 2));
        }
    }

    @Says("CAUGHT by a SET's NETS are numbers of THE WATERS:")
    static void caughtByMeshesThatTogetherOutgrowAllNumbers() {
        // Each leaves by its MESH what 999999999989 leaves. All eight together come round far beyond what a long holds.
        long number = 999_999_999_989L;
        int[] meshes = {999, 998, 997, 995, 991, 989, 983, 977};
        StringBuilder text = new StringBuilder();
        for (int mesh : meshes) {
            text.append("mesh ").append(mesh).append(' ').append(number % mesh).append(';');
        }
        MeshWaters x = Check.of(text.toString());
        x.waters(1, MOST);
        for (int set = 15; set < 256; set = 2 * set + 1) {
            Check.due("by ALL of " + set, set == 15 ? 2 : 1, x.all(set));
            Check.due("the last by " + set, number, x.place(set, set == 15 ? 1 : 0));
            Check.due("the last by " + set, number, x.next(set, number));
            Check.due("none behind it by " + set, NONE, x.next(set, number + 1));
        }
        Check.due("by JUST 8", 1, x.just(255, 8));
        Check.due("NETS that catch it", 255, x.nets(number));
        x.waters(1, number - 1);
        Check.due("by ALL, ahead of it", 0, x.all(255));
        x.waters(number, MOST);
        Check.due("by ALL, from it on", 1, x.all(255));
        // One that the last NET lets through.
        MeshWaters y = Check.of(text.toString().replace("977 " + number % 977, "977 " + (number % 977 + 1)));
        y.waters(1, MOST);
        Check.due("by seven", 1, y.all(127));
        Check.due("by eight", 0, y.all(255));
    }

    @Says("THE NEXT: the least that is no less than a number and caught by ALL;")
    static void theNextIsNoLess() {
        MeshWaters x = Check.of(NETS);
        Check.due("from one that is caught", 30, x.next(7, 30));
        Check.due("from the one behind it", 60, x.next(7, 31));
        Check.due("from the one ahead of it", 30, x.next(7, 29));
        Check.due("the last", 990, x.next(7, 990));
        Check.due("behind the last", NONE, x.next(7, 991));
        Check.due("from below THE WATERS", 30, x.next(7, 0));
        Check.due("from far below", 30, x.next(7, Long.MIN_VALUE));
        Check.due("from beyond THE WATERS", NONE, x.next(7, 1001));
        Check.due("from far beyond", NONE, x.next(0, Long.MAX_VALUE));
        Check.due("of the empty SET", 1000, x.next(0, 1000));
        Check.due("of the empty SET, beyond", NONE, x.next(0, 1001));
        Check.due("of all, far beyond", NONE, x.next(7, Long.MAX_VALUE));
        Check.due("of all, far beyond", NONE, x.next(7, Long.MAX_VALUE - 17));
        x.waters(31, 59);
        Check.due("none in THE WATERS", NONE, x.next(7, 1));
        x.waters(31, 60);
        Check.due("at HIGH", 60, x.next(7, 1));
        x.waters(30, 59);
        Check.due("at LOW", 30, x.next(7, 1));
        x.waters(1, MOST);
        Check.due("at the most", MOST, x.next(5, MOST - 9));
        Check.due("beyond the most", NONE, x.next(5, MOST + 1));
    }

    @Says("THE HOW MANIETH: the i-th (0 on) of those caught by ALL, from the least on.")
    static void theHowManieth() {
        MeshWaters x = Check.of(NETS);
        Check.due("0", 30, x.place(7, 0));
        Check.due("1", 60, x.place(7, 1));
        Check.due("the last", 990, x.place(7, 32));
        Check.due("behind the last", NONE, x.place(7, 33));
        Check.due("far behind", NONE, x.place(7, Long.MAX_VALUE));
        Check.due("of the empty SET", 1, x.place(0, 0));
        Check.due("of the empty SET", 1000, x.place(0, 999));
        Check.due("of the empty SET", NONE, x.place(0, 1000));
        x.waters(60, 90);
        Check.due("0 from LOW on", 60, x.place(7, 0));
        Check.due("1 at HIGH", 90, x.place(7, 1));
        x.waters(1, MOST);
        Check.due("the most", MOST, x.place(5, 99_999_999_999L));
        Check.due("beyond it", NONE, x.place(5, 100_000_000_000L));
    }

    @Says("THE MOST by k NETS: the SET of just k by SOME of which the most are caught, of like ones the least as bits.")
    static void theMostByNets() {
        MeshWaters x = Check.of("salted 4;salted 8;salted 2;salted 3;");
        Check.due("none", 0, x.most(0));
        Check.due("one", 4, x.most(1));
        Check.due("two", 12, x.most(2));
        Check.due("just three, though two catch as many", 13, x.most(3));
        Check.due("all", 15, x.most(4));
        x.waters(1, 1);
        Check.due("of like ones the least", 1, x.most(1));
        Check.due("of like ones the least", 3, x.most(2));
        x.waters(3, 3);
        Check.due("the only one", 8, x.most(1));
        Check.due("with the least other", 9, x.most(2));
        MeshWaters eight = Check.of(EIGHT);
        Check.due("all of eight", 255, eight.most(8));
        Check.due("the most of eight", 128, eight.most(1));
        Check.due("no NETS", 0, new MeshWaters().most(0));
    }

    @Says("ACTS (at most 40 are kept, the latest ones;")
    static void actsAtMostForty() {
        for (int many = 39; many <= 43; many++) {
            MeshWaters x = Check.of("week 1;places 7;pond 0;spawns before;");
            String[] ahead = new String[many];
            for (int i = 0; i < many; i++) {
                ahead[i] = whatActsChange(x);
                if (i % 3 == 0) {
                    x.waters(1 + i, 1000 + 2 * i);
                } else if (i % 3 == 1) {
                    x.lower(0, i % 2 == 1);
                } else {
                    x.years(i);
                }
            }
            int kept = Math.min(many, 40);
            Check.due("kept of " + many, kept, x.count(7));
            for (int i = 1; i <= kept; i++) {
                Check.due("left", kept - i, x.undo());
                Check.due(whatActsChange(x) + " is " + ahead[many - i], true, whatActsChange(x).equals(ahead[many - i]));
            }
            Check.due("none is left", NONE, x.undo());
        }
    }

    private static String whatActsChange(MeshWaters x) {
        StringBuilder all = new StringBuilder();
        for (int place = 0; place < x.count(4); place++) {
            all.append(x.pond(place) ? '1' : '0');
        }
        return all + " " + x.count(0) + " " + x.count(1) + " " + x.count(3) + " " + x.count(6);
    }

    @Says("what its call doesn't refuse is one, also where all is as it was):")
    static void anActWhereAllIsAsItWas() {
        MeshWaters x = Check.of("week 1;pond 3;");
        Check.due("the same WATERS", true, x.waters(1, 1000));
        Check.due("an ACT", 1, x.count(7));
        Check.due("a POND without a rule", 1, x.years(1));
        Check.due("an ACT", 2, x.count(7));
        x.lower(0, true);
        x.lower(0, false);
        Check.due("lowered and raised", 4, x.count(7));
        x.waters(2, 1);
        x.years(0);
        x.years(201);
        x.lower(0, false);
        Check.noSuch("lower 1", () -> x.lower(1, true) ? 1 : 0);
        x.image();
        x.wish(5, true);
        x.see(5);
        x.forget();
        x.haul();
        x.round(0);
        x.ends();
        Check.due("what is refused is none, nor is what is no ACT", 4, x.count(7));
    }

    @Says("THE WATERS become others;")
    static void watersUndone() {
        MeshWaters x = Check.of(NETS);
        x.waters(10, 20);
        x.waters(MOST, MOST);
        Check.due("undo", 1, x.undo());
        Check.due("LOW", 10, x.count(0));
        Check.due("HIGH", 20, x.count(1));
        Check.due("all", 6, x.all(1));
        Check.due("undo", 0, x.undo());
        Check.due("LOW", 1, x.count(0));
        Check.due("HIGH", 1000, x.count(1));
    }

    @Says("a NET is LOWERED or RAISED (all are RAISED at first);")
    static void loweredAndRaised() {
        MeshWaters x = Check.of(EIGHT);
        Check.due("at first", 0, x.count(3));
        for (int net = 0; net < 8; net++) {
            Check.due("RAISED already", false, x.lower(net, false));
            Check.due("lower", true, x.lower(net, true));
            Check.due("LOWERED already", false, x.lower(net, true));
            Check.due("LOWERED", (2 << net) - 1, x.count(3));
        }
        for (int net = 0; net < 8; net++) {
            Check.due("raise", true, x.lower(net, false));
            Check.due("LOWERED", 256 - (2 << net), x.count(3));
        }
        Check.due("undo a raise", 15, x.undo());
        Check.due("LOWERED", 128, x.count(3));
        for (int i = 0; i < 15; i++) {
            x.undo();
        }
        Check.due("LOWERED", 0, x.count(3));
        x.lower(5, true);
        Check.sea(x, EIGHT);
        Check.due("anew", 0, x.count(3));
    }

    @Says("YEARS go by in THE POND (1 to 200).")
    static void yearsOneToTwoHundred() {
        MeshWaters x = Check.of("places 7;pond 0;spawns before;");
        Check.due("0", NONE, x.years(0));
        Check.due("-1", NONE, x.years(-1));
        Check.due("201", NONE, x.years(201));
        Check.due("none went by", 0, x.count(6));
        Check.due("1", 1, x.years(1));
        Check.due("pond 1", true, x.pond(1));
        Check.due("200", 1, x.years(200));
        Check.due("YEARS", 201, x.count(6));
        Check.due("pond 5", true, x.pond(5));
        Check.due("undo", 1, x.undo());
        Check.due("YEARS", 1, x.count(6));
        Check.due("pond 1", true, x.pond(1));
        Check.due("undo", 0, x.undo());
        Check.due("YEARS", 0, x.count(6));
        Check.due("pond 0", true, x.pond(0));
    }

    @Says("They are UNDONE, the last one first.")
    static void undoneTheLastOneFirst() {
        MeshWaters x = Check.of("week 1;week 2;places 5;pond 0;spawns before;");
        x.lower(0, true);
        x.waters(3, 4);
        x.years(2);
        x.lower(1, true);
        x.waters(5, 6);
        String[] due = {"5 6 3 2", "3 4 3 2", "3 4 1 2", "3 4 1 0", "1 1000 1 0", "1 1000 0 0"};
        for (int i = 0; i < due.length; i++) {
            String now = x.count(0) + " " + x.count(1) + " " + x.count(3) + " " + x.count(6);
            Check.due(now + " is " + due[i], true, now.equals(due[i]));
            Check.due("the PLACE", true, x.pond((int) x.count(6)));
            Check.due("undo", 4 - i, x.undo());
        }
    }

    @Says("THE HAUL: how many are CAUGHT by SOME of those that are LOWERED.")
    static void theHaul() {
        MeshWaters x = Check.of(NETS);
        Check.due("none is LOWERED", 0, x.haul());
        x.lower(1, true);
        Check.due("one", 333, x.haul());
        x.lower(0, true);
        Check.due("two", 667, x.haul());
        x.lower(2, true);
        Check.due("all", 734, x.haul());
        x.waters(7, 7);
        Check.due("nothing is caught", 0, x.haul());
        x.waters(7, 8);
        Check.due("one is", 1, x.haul());
    }

    @Says("WISHED and UNWISHED numbers (at most 12 together, 1 to 10 to the power of 12).")
    static void wishesAtMostTwelve() {
        MeshWaters x = new MeshWaters();
        Check.due("0", NONE, x.wish(0, true));
        Check.due("-1", NONE, x.wish(-1, false));
        Check.due("1", 1, x.wish(1, true));
        Check.due("too much by 1", NONE, x.wish(MOST + 1, true));
        Check.due("the most", 2, x.wish(MOST, false));
        for (int i = 3; i <= 12; i++) {
            Check.due("wish", i, x.wish(i, i < 8));
        }
        Check.due("the 13th, WISHED", NONE, x.wish(13, true));
        Check.due("the 13th, UNWISHED", NONE, x.wish(13, false));
        Check.due("WISHED", 6, x.count(8));
        Check.due("UNWISHED", 6, x.count(9));
        MeshWaters all = new MeshWaters();
        for (int i = 1; i <= 12; i++) {
            Check.due("all WISHED", i, all.wish(i, true));
        }
        Check.due("the 13th, UNWISHED", NONE, all.wish(13, false));
        Check.due("WISHED", 12, all.count(8));
    }

    @Says("THE FEWEST NETS: a SET by SOME of which each WISHED one is caught (be it in THE WATERS or not), and no UNWISHED one:")
    static void theFewestNets() {
        MeshWaters x = Check.of(NETS);
        x.wish(10, true);
        Check.due("2", 1, x.fewest());
        x.wish(9, true);
        Check.due("2 and 3", 3, x.fewest());
        x.wish(4, false);
        Check.due("not 2: 3 and 5", 6, x.fewest());
        x.wish(MOST, true);
        Check.due("the most is caught by 5", 6, x.fewest());
        x.waters(1, 5);
        Check.due("out of THE WATERS", 6, x.fewest());
        x.wish(15, false);
        Check.due("an UNWISHED one is caught, out of THE WATERS too", NONE, x.fewest());
        MeshWaters full = Check.of(NETS);
        for (int i = 1; i <= 11; i++) {
            full.wish(30 * i, true);
        }
        full.wish(2, false);
        Check.due("the twelfth counts", 2, full.fewest());
    }

    @Says("of as few the least as bits;")
    static void ofAsFewTheLeastAsBits() {
        MeshWaters x = Check.of("salted 4;salted 2;mesh 2 0;salted 3;");
        x.wish(8, true);
        Check.due("one of three", 1, x.fewest());
        x.wish(2, true);
        Check.due("one of two", 2, x.fewest());
        MeshWaters y = Check.of("salted 4;salted 6;salted 2;");
        y.wish(4, true);
        y.wish(6, true);
        Check.due("one of higher bits is fewer than two", 4, y.fewest());
    }

    @Says("none, if there is none.")
    static void theFewestNetsNone() {
        MeshWaters x = Check.of(NETS);
        x.wish(7, true);
        Check.due("what no NET catches", NONE, x.fewest());
        MeshWaters y = Check.of(NETS);
        y.wish(6, true);
        Check.due("some", 1, y.fewest());
        y.wish(12, false);
        Check.due("2 and 3 catch 12", NONE, y.fewest());
        MeshWaters z = new MeshWaters();
        Check.due("nothing WISHED, no NETS", 0, z.fewest());
        z.wish(1, false);
        Check.due("nothing WISHED, no NETS", 0, z.fewest());
        z.wish(2, true);
        Check.due("no NETS", NONE, z.fewest());
        MeshWaters all = Check.of(EIGHT);
        for (int i = 0; i < 7; i++) {
            all.wish(7 + 2 * i, true);
        }
        Check.due("seven NETS of eight", 127, all.fewest());
    }

    @Says("A NEW MESH: the least MESH from 2 to a number (2 to 999), with the least REST, that catches all WISHED and no UNWISHED ones; none.")
    static void aNewMesh() {
        MeshWaters x = new MeshWaters();
        Check.due("nothing is WISHED", 2000, x.mesh(2));
        x.wish(2, false);
        Check.due("the least REST", 2001, x.mesh(2));
        x.wish(1, false);
        Check.due("none of 2", NONE, x.mesh(2));
        Check.due("3", 3000, x.mesh(3));
        x.forget();
        x.wish(1, true);
        x.wish(999, false);
        x.wish(MOST, false);
        // 998 = 2 * 499, and MOST leaves 1 by 3 as 1 does.
        Check.due("4", 4001, x.mesh(999));
        x.forget();
        x.wish(1, true);
        x.wish(1000, true);
        Check.due("3, that catches both", 3001, x.mesh(3));
        Check.due("2 does not", NONE, x.mesh(2));
        x.wish(4, false);
        x.wish(10, false);
        Check.due("27 catches both and neither", 27001, x.mesh(999));
        x.wish(28, false);
        Check.due("37", 37001, x.mesh(999));
        x.wish(38, false);
        x.wish(112, false);
        Check.due("333", 333001, x.mesh(999));
        x.wish(334, false);
        Check.due("999, the last", 999001, x.mesh(999));
        Check.due("none up to 998", NONE, x.mesh(998));
        x.wish(2, true);
        Check.due("none", NONE, x.mesh(999));
        x.forget();
        x.wish(998, true);
        x.wish(1997, true);
        Check.due("REST MESH less 1", 3002, x.mesh(999));
    }

    @Says("TO FIND one of the numbers 1 to n (1 to 60):")
    static void findOneToSixty() {
        MeshWaters x = Check.of(FINDERS);
        Check.illegal("0", () -> x.find(0, 0));
        Check.due("1", 0, x.find(1, 0));
        Check.due("2", 1, x.find(2, 0));
        Check.due("44", PlainWaters.of(FINDERS).find(44, 0), x.find(44, 0));
        Check.due("60", NONE, x.find(60, 0));
        MeshWaters widest = Check.of(WIDEST_FINDERS);
        Check.due("33 by the widest", 7, widest.find(33, 0));
        Check.due("45 by the widest", 8, widest.find(45, 0));
        Check.due("45 by the widest, the first NET", 0, widest.find(45, 1));
        Check.due("46 by the widest", NONE, widest.find(46, 0));
        Check.illegal("61", () -> x.find(61, 0));
        Check.illegal("-1", () -> x.find(-1, 1));
    }

    @Says("each HAUL with a NET tells whether it catches it: by what was told the next NET is chosen: the fewest HAULS that find it at worst;")
    static void theNextNetIsChosenByWhatWasTold() {
        // Those that are even are told by the second NET, the others by the third.
        MeshWaters x = Check.of("mesh 2 0;mesh 4 2;mesh 4 1;");
        Check.due("two of three NETS each time", 2, x.find(4, 0));
        // Three in a row find 4, at worst, and it takes the whole row.
        MeshWaters y = Check.of("mesh 9 1;mesh 9 2;mesh 9 3;");
        Check.due("at worst", 3, y.find(4, 0));
        Check.due("2 of 3", 2, y.find(3, 0));
        MeshWaters z = Check.of("mesh 9 1;mesh 9 2;mesh 9 3;mesh 9 4;mesh 9 5;mesh 9 6;mesh 9 7;mesh 9 8;");
        Check.due("all eight NETS", 8, z.find(9, 0));
        z.waters(500, 600);
        Check.due("whatever THE WATERS", 8, z.find(9, 0));
    }

    @Says("the first NET of such finding (the least; none, if no HAUL is needed);")
    static void theFirstNetOfSuchFinding() {
        MeshWaters x = Check.of("mesh 4 1;mesh 4 2;mesh 2 0;mesh 2 1;");
        Check.due("the least that halves four", 2, x.find(4, 1));
        Check.due("the least of all", 0, x.find(2, 1));
        Check.due("none is needed", NONE, x.find(1, 1));
        Check.due("none is needed", 0, x.find(1, 0));
        MeshWaters y = Check.of("salted 50;week 6;week 5;salted 2;");
        Check.due("the only one that tells", 3, y.find(2, 1));
        MeshWaters z = Check.of(FINDERS);
        for (int n : new int[] {44, 2, 3, 7, 12, 20, 33}) {
            Check.due("the first NET for " + n, PlainWaters.of(FINDERS).find(n, 1), z.find(n, 1));
        }
        String others = "mesh 2 0;mesh 5 4;mesh 3 0;mesh 5 2;mesh 5 3;mesh 5 1;mesh 2 1 from 6 to 61;mesh 3 1 from 3 to 32;";
        MeshWaters w = Check.of(others);
        for (int n = 2; n <= 31; n++) {
            Check.due("the first NET of others for " + n, PlainWaters.of(others).find(n, 1), w.find(n, 1));
        }
    }

    @Says("none, if it can't be found (two are alike for all NETS).")
    static void whatCannotBeFound() {
        MeshWaters x = Check.of(FINDERS);
        Check.due("44", true, x.find(44, 0) != NONE);
        Check.due("45", NONE, x.find(45, 0));
        Check.due("45", NONE, x.find(45, 1));
        MeshWaters y = Check.of("salted 2;");
        Check.due("2", 1, y.find(2, 0));
        Check.due("1 and 3 are alike", NONE, y.find(3, 0));
        Check.due("1 and 3 are alike", NONE, y.find(3, 1));
        MeshWaters none = new MeshWaters();
        Check.due("without NETS", NONE, none.find(2, 0));
        Check.due("without NETS", NONE, none.find(2, 1));
        MeshWaters z = Check.of("mesh 9 1;mesh 9 2;mesh 9 3;mesh 9 4;mesh 9 5;mesh 9 6;mesh 9 7;mesh 9 8;");
        Check.due("9 is the one that none catches", 8, z.find(9, 0));
        Check.due("1 and 10 are alike", NONE, z.find(10, 0));
    }
}
