/** Each promise by itself: ordinary inputs, the edges that the document names, wrong inputs. */
final class PromiseTests {
    private static final long MOST = 1_000_000_000_000L;
    private static final int NONE = MeshWaters.NONE;
    private static final String NETS = "mesh 7 3;twos 2;ending 2 25;week 5;salted 6 from 10 to 100;";

    private PromiseTests() {
    }

    static void p01NewObject() {
        MeshWaters x = new MeshWaters();
        Check.due("NONE", -1, NONE);
        long[] due = {1, 1000, 0, 0, 30, 0, 0, 0, 0, 0, 0, 0, 0, 0, 0};
        for (int what = 0; what < due.length; what++) {
            Check.due("count " + what, due[what], x.count(what));
        }
        for (int place = 0; place < 30; place++) {
            Check.due("pond " + place, false, x.pond(place));
        }
        Check.noSuch("net 0", () -> x.net(0, 0));
        Check.due("fault", NONE, x.fault());
        Check.due("restore", false, x.restore());
        Check.due("years without a rule", 0, x.years(3));
    }

    static void p02Feed() {
        MeshWaters x = new MeshWaters();
        for (int i = 1; i <= 25; i++) {
            Check.due("feed", 20 * i, x.feed(1, 2, 3, 4, 5));
        }
        Check.due("feed beyond 500", NONE, x.feed(1, 2, 3, 4, 5));
        Check.due("tape", 500, x.count(11));
        Check.due("sea of all", 1, x.sea(500));
        MeshWaters y = new MeshWaters();
        // The highest byte first: "week", " 3; ", and bytes above 127 behind.
        y.feed(0x7765656b, 0x20333b20, 0x80ffffff, -1, Integer.MIN_VALUE);
        Check.due("sea of 8", 0, y.sea(8));
        Check.due("net", 3, y.net(0, 2));
        y.feed(0x7765656b, 0x20333b20, 0x80ffffff, -1, Integer.MIN_VALUE);
        Check.due("sea of 9", 1, y.sea(9));
        Check.due("fault", 8, y.fault());
    }

    static void p03Sea() {
        MeshWaters x = Check.of(NETS + "places 9;pond 3 4;spawns before;");
        Check.due("tape", 0, x.count(11));
        x.waters(5, 50);
        x.lower(1, true);
        x.years(1);
        x.wish(4, true);
        x.wish(5, false);
        x.see(6);
        x.image();
        x.waters(0, 0);
        x.see(0);
        Check.feed(x, "mesh 7 9;");
        Check.illegal("sea 21", () -> x.sea(21));
        Check.illegal("sea -1", () -> x.sea(-1));
        Check.due("tape", 20, x.count(11));
        Check.due("fault yet", NONE, x.fault());
        Check.due("STATUS 0", 0, x.count(12));
        Check.due("sea", 2, x.sea(9));
        long[] faulty = {5, 50, 5, 2, 9, 2, 1, 3, 1, 1, 1, 0, 1, 1, 1};
        for (int what = 0; what < faulty.length; what++) {
            Check.due("count " + what + " behind a FAULT", faulty[what], x.count(what));
        }
        Check.due("pond 5", true, x.pond(5));
        Check.due("fewest", 2, x.fewest());
        Check.due("restore", true, x.restore());
        Check.feed(x, "week 2;pond 29; and what stands behind");
        Check.due("sea", 0, x.sea(15));
        long[] anew = {1, 1000, 1, 0, 30, 1, 0, 0, 0, 0, 0, 0, 0, 0, 0};
        for (int what = 0; what < anew.length; what++) {
            Check.due("count " + what + " anew", anew[what], x.count(what));
        }
        Check.due("restore anew", false, x.restore());
        Check.due("undo anew", NONE, x.undo());
        Check.due("years without a rule", 1, x.years(1));
        Check.due("pond stays", true, x.pond(29));
        Check.due("an empty sea", 0, x.sea(0));
        Check.due("nets of it", 0, x.count(2));
        Check.due("pond of it", 0, x.count(5));
    }

    static void p03StatusStays() {
        MeshWaters x = new MeshWaters();
        x.years(0);
        x.see(0);
        x.wish(0, true);
        Check.due("sea", 1, Check.sea(x, "x"));
        Check.due("sea", 0, Check.sea(x, "week 1;"));
        Check.due("STATUS 0", 1, x.count(12));
        Check.due("STATUS 1", 1, x.count(13));
        Check.due("STATUS 2", 2, x.count(14));
    }

    static void p04Fault() {
        MeshWaters x = new MeshWaters();
        Check.due("fault", NONE, x.fault());
        Check.sea(x, "week 1; week 9;");
        Check.due("fault", 13, x.fault());
        x.image();
        x.restore();
        Check.illegal("sea", () -> x.sea(1));
        Check.due("fault stays", 13, x.fault());
        Check.sea(x, "week 1; week");
        Check.due("fault where it ends too soon", 12, x.fault());
        Check.sea(x, "week 1;");
        Check.due("fault is gone", NONE, x.fault());
    }

    static void p05Count() {
        MeshWaters x = Check.of(NETS + "places 12;pond 1 2 3 4;");
        x.waters(7, 77);
        x.lower(4, true);
        x.lower(0, true);
        x.years(10);
        x.wish(1, true);
        x.wish(2, false);
        x.wish(3, false);
        x.see(1);
        x.see(1);
        x.see(1);
        x.feed(0, 0, 0, 0, 0);
        x.sea(1);
        x.feed(0, 0, 0, 0, 0);
        x.waters(2, 1);
        x.years(0);
        x.see(0);
        x.see(-1);
        x.wish(0, true);
        long[] due = {7, 77, 5, 17, 12, 4, 10, 4, 1, 2, 3, 20, 1, 2, 3};
        for (int what = 0; what < due.length; what++) {
            Check.due("count " + what, due[what], x.count(what));
        }
        Check.noSuch("count -1", () -> x.count(-1));
        Check.noSuch("count 15", () -> x.count(15));
        Check.noSuch("count least", () -> x.count(Integer.MIN_VALUE));
    }

    static void p06Net() {
        MeshWaters x = Check.of("mesh 7 3;twos 0;twos 20 from 3 to 9;ending 4 12;week 5;salted 6 from 10 to 100;ending 1 0;");
        long[][] due = {{0, 7, 3, 1, MOST}, {1, 2, 1, 1, MOST}, {1, 2097152, 1048576, 3, 9}, {2, 10000, 12, 1, MOST},
            {3, 7, 5, 1, MOST}, {4, 6, 0, 10, 100}, {2, 10, 0, 1, MOST}};
        for (int net = 0; net < due.length; net++) {
            for (int what = 0; what < 5; what++) {
                Check.due("net " + net + " " + what, due[net][what], x.net(net, what));
            }
        }
        Check.noSuch("net 7", () -> x.net(7, 0));
        Check.noSuch("net -1", () -> x.net(-1, 0));
        Check.noSuch("what -1", () -> x.net(0, -1));
        Check.noSuch("what 5", () -> x.net(0, 5));
    }

    static void p07Pond() {
        MeshWaters x = Check.of("places 60;pond 0 59 32;");
        for (int place = 0; place < 60; place++) {
            Check.due("pond " + place, place == 0 || place == 59 || place == 32, x.pond(place));
        }
        Check.noSuch("pond 60", () -> x.pond(60) ? 1 : 0);
        Check.noSuch("pond -1", () -> x.pond(-1) ? 1 : 0);
        MeshWaters y = new MeshWaters();
        Check.noSuch("pond 30", () -> y.pond(30) ? 1 : 0);
    }

    static void p08Waters() {
        MeshWaters x = new MeshWaters();
        Check.due("waters", true, x.waters(1, MOST));
        Check.due("all", MOST, x.all(0));
        Check.due("waters", true, x.waters(MOST, MOST));
        Check.due("waters that are so already", true, x.waters(MOST, MOST));
        Check.due("ACTS", 3, x.count(7));
        Check.due("low 0", false, x.waters(0, 5));
        Check.due("high too much", false, x.waters(5, MOST + 1));
        Check.due("low above high", false, x.waters(6, 5));
        Check.due("low least", false, x.waters(Long.MIN_VALUE, Long.MAX_VALUE));
        Check.due("STATUS 1", 4, x.count(13));
        Check.due("ACTS", 3, x.count(7));
        Check.due("LOW", MOST, x.count(0));
        Check.due("HIGH", MOST, x.count(1));
    }

    static void p09Lower() {
        MeshWaters x = Check.of(NETS);
        Check.due("raise a raised one", false, x.lower(2, false));
        Check.due("lower", true, x.lower(2, true));
        Check.due("lower again", false, x.lower(2, true));
        Check.due("lower another", true, x.lower(0, true));
        Check.due("LOWERED", 5, x.count(3));
        Check.due("raise", true, x.lower(2, false));
        Check.due("LOWERED", 1, x.count(3));
        Check.due("STATUS 1", 2, x.count(13));
        Check.due("ACTS", 3, x.count(7));
        Check.noSuch("lower 5", () -> x.lower(5, true) ? 1 : 0);
        Check.noSuch("lower -1", () -> x.lower(-1, false) ? 1 : 0);
        Check.due("STATUS 1 behind exceptions", 2, x.count(13));
    }

    static void p10Years() {
        MeshWaters x = Check.of("places 6;pond 0;spawns before or in;");
        Check.due("years 2", 3, x.years(2));
        Check.due("years 200", 6, x.years(200));
        Check.due("YEARS", 202, x.count(6));
        Check.due("years 0", NONE, x.years(0));
        Check.due("years 201", NONE, x.years(201));
        Check.due("years -1", NONE, x.years(-1));
        Check.due("STATUS 1", 3, x.count(13));
        Check.due("ACTS", 2, x.count(7));
        MeshWaters y = Check.of("pond 4 5;");
        Check.due("years without a rule", 2, y.years(7));
        Check.due("YEARS", 7, y.count(6));
        Check.due("an ACT all the same", 1, y.count(7));
    }

    static void p10Rules() {
        Check.pond("places 5;spawns place=3 or place<2;", 1, 0, 1, 3);
        Check.pond("places 5;pond 0;spawns before;", 1, 1);
        Check.pond("places 5;pond 0;spawns after;", 1, 4);
        Check.pond("places 5;pond 4;spawns before;", 1, 0);
        Check.pond("places 5;pond 4;spawns after;", 1, 3);
        Check.pond("places 2;pond 0;spawns before*after;", 1, 1);
        Check.pond("places 6;pond 1 2 5;spawns sums;", 1, 0, 1, 3);
        Check.pond("places 6;pond 0 1 2 3 4 5;spawns sums=3;", 1, 1, 3, 5);
        Check.pond("places 6;pond 0 1 2 3 4 5;spawns sums=2;", 1, 0, 2, 4);
        Check.pond("places 6;pond 1 4;spawns place=all;", 1, 2);
        Check.pond("places 6;spawns place=year;", 1, 0);
        Check.pond("places 6;spawns place=year;", 5, 4);
        Check.pond("places 6;spawns 7-2*3=place;", 1, 1);
        Check.pond("places 6;spawns 7-2-3=place;", 1, 2);
        Check.pond("places 6;spawns 8/2/2=place;", 1, 2);
        Check.pond("places 6;spawns (place-4)/3+1=0;", 1, 0, 1);
        Check.pond("places 6;spawns (0-7)/2=0-3 and place=5;", 1, 5);
        Check.pond("places 6;spawns 7/(place-3)=0-7;", 1, 2);
        Check.pond("places 6;spawns 7/(place-3)=0;", 1, 3);
        // 999700029999 wraps to 0 - 1027349969.
        Check.pond("places 4;spawns 9999*9999*9999=0-1027*1000*1000-349*1000-969;", 1, 0, 1, 2, 3);
        Check.pond("places 4;spawns 0-2147*1000*1000-483*1000-648=2147*1000*1000+483*1000+647+1;", 1, 0, 1, 2, 3);
        Check.pond("places 4;spawns (0-2147*1000*1000-483*1000-648)/(0-1)<0;", 1, 0, 1, 2, 3);
        Check.pond("places 6;spawns not place<3;", 1, 3, 4, 5);
        Check.pond("places 6;spawns not not place=place*1;", 1, 0, 1, 2, 3, 4, 5);
        Check.pond("places 6;spawns (not not place)=1;", 1, 1, 2, 3, 4, 5);
        Check.pond("places 6;spawns not place+1;", 1);
        Check.pond("places 6;spawns (3 or 0)+(2 and 5)=place;", 1, 2);
        Check.pond("places 6;spawns (5)+(0 or 0)=place;", 1, 5);
        Check.pond("places 6;spawns place=1 or place=2 and place=3;", 1, 1);
        Check.pond("places 6;spawns (place=1 or place=2) and place=2;", 1, 2);
        Check.pond("places 6;spawns (1<2)=1 and (2<1)=0 and (2<2)=0 and place<1;", 1, 0);
        Check.pond("places 6;spawns 0-1;", 1, 0, 1, 2, 3, 4, 5);
        Check.pond("places 60;pond 59;spawns before or place=59;", 1, 0, 59);
    }

    static void p11Undo() {
        MeshWaters x = Check.of(NETS + "places 8;pond 0;spawns before;");
        Check.due("undo", NONE, x.undo());
        x.waters(10, 20);
        x.lower(3, true);
        x.years(3);
        x.lower(3, false);
        Check.due("undo", 3, x.undo());
        Check.due("LOWERED", 8, x.count(3));
        Check.due("pond 3", true, x.pond(3));
        Check.due("undo", 2, x.undo());
        Check.due("pond 0", true, x.pond(0));
        Check.due("YEARS", 0, x.count(6));
        Check.due("undo", 1, x.undo());
        Check.due("LOWERED", 0, x.count(3));
        Check.due("HIGH", 20, x.count(1));
        Check.due("undo", 0, x.undo());
        Check.due("LOW", 1, x.count(0));
        Check.due("HIGH", 1000, x.count(1));
        Check.due("undo", NONE, x.undo());
        Check.due("STATUS 1", 0, x.count(13));
    }

    static void p11LatestForty() {
        MeshWaters x = new MeshWaters();
        for (int i = 1; i <= 45; i++) {
            x.waters(i, 100 + i);
            Check.due("ACTS", Math.min(i, 40), x.count(7));
        }
        for (int i = 39; i >= 0; i--) {
            Check.due("undo", i, x.undo());
        }
        Check.due("undo", NONE, x.undo());
        Check.due("LOW behind the oldest one kept", 5, x.count(0));
        Check.due("HIGH behind the oldest one kept", 105, x.count(1));
    }

    static void p12Nets() {
        MeshWaters x = Check.of(NETS);
        Check.due("nets 60", 18, x.nets(60));
        Check.due("nets 10", 1, x.nets(10));
        Check.due("nets 6 below FROM", 0, x.nets(6));
        Check.due("nets 12 from FROM on", 26, x.nets(12));
        Check.due("nets 102 above TO", 0, x.nets(102));
        Check.due("nets 125", 4, x.nets(125));
        x.waters(1, 2);
        Check.due("nets out of THE WATERS", 26, x.nets(12));
        Check.due("nets of the most", 0, x.nets(MOST));
        Check.due("nets of the most", 1, Check.of("ending 4 0;").nets(MOST));
        Check.illegal("nets 0", () -> x.nets(0));
        Check.illegal("nets beyond", () -> x.nets(MOST + 1));
        Check.illegal("nets below", () -> x.nets(-7));
    }

    static void p13All() {
        MeshWaters x = Check.of(NETS);
        Check.due("all 0", 1000, x.all(0));
        Check.due("all 1", 143, x.all(1));
        Check.due("all 9: two REST of one MESH", 0, x.all(9));
        Check.due("all 16", 15, x.all(16));
        Check.due("all 18", 4, x.all(18));
        Check.due("all 31", 0, x.all(31));
        x.waters(12, 12);
        Check.due("all 18 of 12", 1, x.all(18));
        x.waters(13, 35);
        Check.due("all 18 of 13 to 35", 0, x.all(18));
        Check.illegal("all 32", () -> x.all(32));
        Check.illegal("all -1", () -> x.all(-1));
        MeshWaters y = Check.of("mesh 6 1;mesh 4 3;mesh 4 1;mesh 10 7;");
        y.waters(1, 120);
        Check.due("common part that fits", 10, y.all(3));
        // 6x+1 and 4y+1: 1, 13, 25 ..; 7 more with 10z+7: 37, 97.
        Check.due("common part of the same rest", 10, y.all(5));
        Check.due("three", 2, y.all(13));
        Check.due("no number", 0, y.all(6));
    }

    static void p14Some() {
        MeshWaters x = Check.of(NETS);
        Check.due("some 0", 0, x.some(0));
        Check.due("some 3", 251, x.some(3));
        Check.due("some 9", 286, x.some(9));
        x.waters(1, MOST);
        Check.due("some of wide waters", 142857142857L + 125000000000L - 17857142857L, x.some(3));
        Check.illegal("some 32", () -> x.some(32));
        Check.illegal("some -1", () -> x.some(-1));
        MeshWaters y = Check.of("week 0;week 1;week 2;week 3;week 4;week 5;week 6;salted 2;");
        Check.due("some of all days", 1000, y.some(255));
        Check.due("some of all days", 1000, y.some(127));
        Check.illegal("some 256", () -> y.some(256));
    }

    static void p15Just() {
        MeshWaters x = Check.of(NETS);
        Check.due("just 3 0", 749, x.just(3, 0));
        Check.due("just 3 1", 234, x.just(3, 1));
        Check.due("just 3 2", 17, x.just(3, 2));
        Check.due("just 3 8", 0, x.just(3, 8));
        Check.due("just 0 0", 1000, x.just(0, 0));
        Check.due("just 0 1", 0, x.just(0, 1));
        Check.illegal("just k 9", () -> x.just(3, 9));
        Check.illegal("just k -1", () -> x.just(3, -1));
        Check.illegal("just set 32", () -> x.just(32, 0));
        Check.illegal("just set -1", () -> x.just(-1, 0));
        MeshWaters y = Check.of("salted 2;salted 2;salted 2;salted 2;salted 2;salted 2;salted 2;salted 3;");
        y.waters(1, 12);
        long[] due = {4, 2, 0, 0, 0, 0, 0, 4, 2};
        for (int k = 0; k <= 8; k++) {
            Check.due("just 255 " + k, due[k], y.just(255, k));
        }
    }

    static void p16Haul() {
        MeshWaters x = Check.of(NETS);
        Check.due("haul", 0, x.haul());
        x.lower(0, true);
        Check.due("haul", 143, x.haul());
        x.lower(3, true);
        Check.due("haul", 286, x.haul());
        x.waters(1, 7);
        Check.due("haul", 2, x.haul());
        x.lower(0, false);
        Check.due("haul", 1, x.haul());
    }

    static void p17Next() {
        MeshWaters x = Check.of(NETS);
        Check.due("next", 52, x.next(3, 52));
        Check.due("next", 108, x.next(3, 53));
        Check.due("next from below", 52, x.next(3, Long.MIN_VALUE));
        Check.due("next from beyond", NONE, x.next(3, Long.MAX_VALUE));
        Check.due("next 9", NONE, x.next(9, 1));
        Check.due("next from the last one", 997, x.next(1, 997));
        Check.due("next behind the last one", NONE, x.next(1, 998));
        Check.due("next of 0", 1000, x.next(0, 1000));
        Check.due("next of 0", NONE, x.next(0, 1001));
        Check.due("next from FROM on", 12, x.next(16, 1));
        Check.due("next up to TO", NONE, x.next(16, 97));
        x.waters(60, 107);
        Check.due("next in THE WATERS", NONE, x.next(3, 1));
        x.waters(60, 108);
        Check.due("next in THE WATERS", 108, x.next(3, 1));
        Check.illegal("next 32", () -> x.next(32, 1));
        Check.illegal("next -1", () -> x.next(-1, 1));
    }

    static void p18Place() {
        MeshWaters x = Check.of(NETS);
        Check.due("place", 52, x.place(3, 0));
        Check.due("place", 948, x.place(3, 16));
        Check.due("place", NONE, x.place(3, 17));
        Check.due("place of 0", 6, x.place(0, 5));
        Check.due("place far off", NONE, x.place(3, Long.MAX_VALUE));
        x.waters(100, 200);
        Check.due("place in THE WATERS", 108, x.place(3, 0));
        x.waters(1, MOST);
        Check.due("place of the last", MOST, x.place(0, MOST - 1));
        Check.due("place behind it", NONE, x.place(0, MOST));
        Check.illegal("place -1", () -> x.place(3, -1));
        Check.illegal("place of 32", () -> x.place(32, 0));
        Check.illegal("place of -1", () -> x.place(-1, 0));
    }

    static void p19Most() {
        MeshWaters x = Check.of(NETS);
        Check.due("most 0", 0, x.most(0));
        Check.due("most 1", 1, x.most(1));
        Check.due("most 2", 9, x.most(2));
        Check.due("most 5", 31, x.most(5));
        x.waters(10, 60);
        Check.due("most 1 of 10 to 60", 16, x.most(1));
        Check.illegal("most 6", () -> x.most(6));
        Check.illegal("most -1", () -> x.most(-1));
        MeshWaters y = Check.of("salted 10;salted 20;salted 2;salted 4;");
        Check.due("least as bits of like ones", 5, y.most(2));
        Check.due("least as bits of like ones", 7, y.most(3));
    }

    static void p20Wish() {
        MeshWaters x = new MeshWaters();
        Check.due("wish", 1, x.wish(5, true));
        Check.due("wish", 2, x.wish(6, false));
        Check.due("wish again", NONE, x.wish(5, true));
        Check.due("wish the other way", NONE, x.wish(5, false));
        Check.due("wish the other way", NONE, x.wish(6, true));
        Check.due("wish 0", NONE, x.wish(0, true));
        Check.due("wish beyond", NONE, x.wish(MOST + 1, false));
        Check.due("STATUS 2", 5, x.count(14));
        Check.due("wish the most", 3, x.wish(MOST, true));
        for (int i = 4; i <= 12; i++) {
            Check.due("wish", i, x.wish(100 + i, i % 2 == 0));
        }
        Check.due("wish the 13th", NONE, x.wish(1, true));
        Check.due("STATUS 2", 6, x.count(14));
        Check.due("WISHED", 7, x.count(8));
        Check.due("UNWISHED", 5, x.count(9));
    }

    static void p21Forget() {
        MeshWaters x = new MeshWaters();
        x.wish(5, true);
        x.wish(6, false);
        x.see(7);
        x.waters(1, 9);
        x.see(0);
        x.forget();
        Check.due("WISHED", 0, x.count(8));
        Check.due("UNWISHED", 0, x.count(9));
        Check.due("SEEN", 0, x.count(10));
        Check.due("ACTS", 1, x.count(7));
        Check.due("STATUS 2", 1, x.count(14));
        Check.due("wish anew", 1, x.wish(5, false));
    }

    static void p22Fewest() {
        MeshWaters x = Check.of("salted 2;salted 3;salted 6;salted 5;mesh 6 0;");
        Check.due("nothing is WISHED", 0, x.fewest());
        x.wish(7, false);
        Check.due("nothing is WISHED", 0, x.fewest());
        x.wish(6, true);
        Check.due("fewest", 1, x.fewest());
        x.wish(4, false);
        Check.due("without 2", 2, x.fewest());
        x.wish(3, false);
        Check.due("without 2 and 3", 4, x.fewest());
        x.wish(35, true);
        Check.due("two NETS", 12, x.fewest());
        x.waters(100, 200);
        Check.due("out of THE WATERS", 12, x.fewest());
        x.wish(11, true);
        Check.due("none", NONE, x.fewest());
        MeshWaters y = Check.of("salted 4;salted 6;salted 2;");
        y.wish(4, true);
        y.wish(6, true);
        Check.due("as few, though of higher bits", 4, y.fewest());
        y.wish(10, false);
        Check.due("fewest", 3, y.fewest());
        Check.due("without NETS", 0, new MeshWaters().fewest());
    }

    static void p23Mesh() {
        MeshWaters x = new MeshWaters();
        Check.due("mesh", 2000, x.mesh(2));
        x.wish(52, true);
        x.wish(12, false);
        Check.due("mesh 10", 3001, x.mesh(10));
        Check.due("mesh 3", 3001, x.mesh(3));
        Check.due("mesh 2", NONE, x.mesh(2));
        Check.illegal("mesh 1", () -> x.mesh(1));
        Check.illegal("mesh 1000", () -> x.mesh(1000));
        x.forget();
        x.wish(1, false);
        Check.due("least REST without wishes", 2000, x.mesh(999));
        x.wish(2, false);
        Check.due("least MESH without wishes", 3000, x.mesh(999));
        Check.due("none", NONE, x.mesh(2));
        x.forget();
        x.wish(1, true);
        x.wish(999, true);
        Check.due("mesh", 2001, x.mesh(999));
        x.wish(3, false);
        Check.due("mesh", 499001, x.mesh(999));
        Check.due("none", NONE, x.mesh(498));
        x.wish(500, false);
        Check.due("mesh", 998001, x.mesh(999));
        x.wish(MOST, true);
        Check.due("none", NONE, x.mesh(999));
    }

    static void p24Find() {
        MeshWaters x = Check.of("salted 2;mesh 3 1;mesh 4 3;twos 2;");
        Check.due("find 1", 0, x.find(1, 0));
        Check.due("find 1", NONE, x.find(1, 1));
        Check.due("find 2", 1, x.find(2, 0));
        Check.due("find 2", 0, x.find(2, 1));
        Check.due("find 3", 2, x.find(3, 0));
        Check.due("find 3", 0, x.find(3, 1));
        Check.due("find 4", 2, x.find(4, 0));
        Check.due("find 4", 0, x.find(4, 1));
        Check.due("find 5: 2 told from 5", 3, x.find(5, 0));
        Check.due("find 60", NONE, x.find(60, 0));
        Check.due("find 60", NONE, x.find(60, 1));
        x.waters(500, 600);
        Check.due("whatever THE WATERS", 2, x.find(4, 0));
        Check.noSuch("find what 2", () -> x.find(4, 2));
        Check.noSuch("find what ahead of n", () -> x.find(0, -1));
        Check.illegal("find 0", () -> x.find(0, 0));
        Check.illegal("find 61", () -> x.find(61, 1));
        MeshWaters y = Check.of("salted 50;mesh 4 0;mesh 4 1;mesh 2 0;mesh 2 1;mesh 4 2;");
        Check.due("find 4", 2, y.find(4, 0));
        Check.due("the least first NET of such finding", 2, y.find(3, 1));
        Check.due("the least first NET of such finding", 3, y.find(4, 1));
    }

    static void p24FindMany() {
        String text = "mesh 2 0;mesh 5 4;mesh 3 0;mesh 5 2;mesh 5 3;mesh 5 1;mesh 2 1 from 6 to 61;mesh 3 1 from 3 to 32;";
        MeshWaters x = Check.of(text);
        PlainWaters plain = PlainWaters.of(text);
        for (int n = 1; n <= 60; n++) {
            Check.due("find " + n, plain.find(n, 0), x.find(n, 0));
            Check.due("first of find " + n, plain.find(n, 1), x.find(n, 1));
        }
        Check.due("find 31", true, x.find(31, 0) != NONE);
        Check.due("find 32", NONE, x.find(32, 0));
        Check.due("without NETS", NONE, new MeshWaters().find(2, 0));
    }

    static void p25Parts() {
        MeshWaters x = new MeshWaters();
        Check.due("parts of 360", 3, x.parts(360, NONE, false));
        Check.due("parts of 360", 3, x.parts(360, NONE, true));
        int[][] due = {{2, 3}, {3, 2}, {5, 1}};
        for (int i = 0; i < 3; i++) {
            Check.due("prime " + i, due[i][0], x.parts(360, i, false));
            Check.due("often " + i, due[i][1], x.parts(360, i, true));
        }
        Check.noSuch("parts 3", () -> x.parts(360, 3, false));
        Check.noSuch("parts -2", () -> x.parts(360, -2, true));
        Check.due("parts of 1", 0, x.parts(1, NONE, false));
        Check.noSuch("parts of 1", () -> x.parts(1, 0, true));
        Check.due("a prime", 999999937, x.parts(999999937, 0, false));
        Check.due("the most", 9, x.parts(1000000000, 1, true));
        Check.due("nine primes", 9, x.parts(223092870, NONE, false));
        Check.due("nine primes", 23, x.parts(223092870, 8, false));
        Check.due("a square", 31607, x.parts(31607 * 31607, 0, false));
        Check.due("a square", 2, x.parts(31607 * 31607, 0, true));
        Check.due("of two", 29, x.parts(536870912, 0, true));
        Check.illegal("parts of 0", () -> x.parts(0, 9, false));
        Check.illegal("parts of too much", () -> x.parts(1000000001, 9, false));
    }

    static void p26Divided() {
        MeshWaters x = new MeshWaters();
        long[][] due = {{360, 24, 810, 2, 3, 45}, {28, 6, 28, 1, 2, 7}, {1, 1, 0, 0, 0, 1}, {2, 2, 1, 0, 1, 1}, {97, 2, 1, 0, 0, 97},
            {1000000000, 100, 1497558338, 2, 9, 1953125}, {33550336, 26, 33550336, 1, 12, 8191}, {735134400, 1344, addedUp(735134400), 2, 6, 11486475},
            {536870912, 30, 536870911, 0, 29, 1}, {999999937, 2, 1, 0, 0, 999999937}, {945, 16, 975, 2, 0, 945}};
        for (long[] row : due) {
            for (int what = 0; what < 5; what++) {
                Check.due("divided " + row[0] + " " + what, row[what + 1], x.divided((int) row[0], what));
            }
        }
        Check.noSuch("divided what 5", () -> x.divided(6, 5));
        Check.noSuch("divided what -1", () -> x.divided(6, -1));
        Check.illegal("divided 0", () -> x.divided(0, 9));
        Check.illegal("divided too much", () -> x.divided(1000000001, 0));
    }

    private static long addedUp(int number) {
        long all = 0;
        for (int d = 1; (long) d * d <= number; d++) {
            if (number % d == 0) {
                all += d + (d == number / d ? 0 : number / d);
            }
        }
        return all - number;
    }

    static void p27Primes() {
        MeshWaters x = new MeshWaters();
        Check.due("primes 1 10", 4, x.primes(1, 10));
        Check.due("primes 1 1", 0, x.primes(1, 1));
        Check.due("primes 2 2", 1, x.primes(2, 2));
        Check.due("primes 1 2001", 303, x.primes(1, 2001));
        Check.due("primes at the end", 1, x.primes(999999937, 1000000000));
        Check.due("primes 24 28", 0, x.primes(24, 28));
        Check.due("a square of a prime", 0, x.primes(31607 * 31607, 31607 * 31607));
        Check.illegal("primes 10 2011", () -> x.primes(10, 2011));
        Check.illegal("primes 10 9", () -> x.primes(10, 9));
        Check.illegal("primes 0 9", () -> x.primes(0, 9));
        Check.illegal("primes beyond", () -> x.primes(999999999, 1000000001));
        Check.illegal("primes beyond", () -> x.primes(1000000001, 1000000001));
        Check.illegal("primes far off", () -> x.primes(1, Integer.MAX_VALUE));
    }

    static void p28Prime() {
        MeshWaters x = new MeshWaters();
        Check.due("prime 1", 2, x.prime(1));
        Check.due("prime 2", 2, x.prime(2));
        Check.due("prime 24", 29, x.prime(24));
        Check.due("prime 999999937", 999999937, x.prime(999999937));
        Check.due("prime 1000000000", 1000000007, x.prime(1000000000));
        Check.due("a wide gap", 436273291, x.prime(436273010));
        Check.illegal("prime 0", () -> x.prime(0));
        Check.illegal("prime beyond", () -> x.prime(1000000001));
    }

    static void p29Shoal() {
        MeshWaters x = new MeshWaters();
        Check.due("shoal 2 10", 5, x.shoal(2, 10));
        Check.due("shoal 3 10", 2, x.shoal(3, 10));
        Check.due("shoal 7 10", 1, x.shoal(7, 10));
        Check.due("shoal 11 10", 0, x.shoal(11, 10));
        Check.due("shoal 4", 0, x.shoal(4, 10));
        Check.due("shoal 1", 0, x.shoal(1, 10));
        Check.due("shoal -3", 0, x.shoal(-3, 10));
        Check.due("shoal 2 2", 1, x.shoal(2, 2));
        Check.due("shoal 2 100000", 50000, x.shoal(2, 100000));
        Check.due("shoal 3 100000", 16667, x.shoal(3, 100000));
        Check.due("shoal 99991", 1, x.shoal(99991, 100000));
        Check.due("shoal 313", 3, x.shoal(313, 100000));
        Check.due("shoal of the most", 0, x.shoal(Integer.MAX_VALUE, 100000));
        Check.illegal("shoal 1", () -> x.shoal(2, 1));
        Check.illegal("shoal 100001", () -> x.shoal(2, 100001));
        int all = 0;
        for (int prime = 2; prime <= 1000; prime++) {
            all += x.shoal(prime, 1000);
        }
        Check.due("all shoals", 999, all);
    }

    static void p30Sums() {
        MeshWaters x = new MeshWaters();
        Check.due("sums 20 3 0", 6, x.sums(20, 3, 0));
        Check.due("sums 0", 0, x.sums(0, 3, 0));
        Check.due("sums of all", 1_000_000_000_000_000L, x.sums(1_000_000_000_000_000L, 1, 0));
        Check.due("sums 1000 50 27", 1, x.sums(1000, 50, 27));
        Check.due("sums 9 50 9", 1, x.sums(9, 50, 9));
        Check.illegal("sums -1", () -> x.sums(-1, 3, 0));
        Check.illegal("sums too much", () -> x.sums(1_000_000_000_000_001L, 3, 0));
        Check.illegal("sums m 0", () -> x.sums(5, 0, 0));
        Check.illegal("sums m 51", () -> x.sums(5, 51, 0));
        Check.illegal("sums rest -1", () -> x.sums(5, 3, -1));
        Check.illegal("sums rest 3", () -> x.sums(5, 3, 3));
    }

    static void p31Figures() {
        MeshWaters x = new MeshWaters();
        long most = 1_000_000_000_000_000L;
        Check.due("figures 20 1", 11, x.figures(20, 1, false));
        Check.due("figures 20 2", 2, x.figures(20, 2, false));
        Check.due("figures 0 as the first", 0, x.figures(20, 0, false));
        Check.due("figures 1 anywhere", 11, x.figures(20, 1, true));
        Check.due("figures 2 anywhere", 3, x.figures(20, 2, true));
        Check.due("figures 0 anywhere", 10, x.figures(100, 0, true));
        Check.due("figures 0 anywhere", 20, x.figures(110, 0, true));
        Check.due("figures of none", 0, x.figures(0, 0, true));
        Check.due("first of the most", 111111111111112L, x.figures(most, 1, false));
        Check.due("first of the most", 111111111111111L, x.figures(most, 9, false));
        Check.due("anywhere of the most", most - 205891132094649L, x.figures(most, 9, true));
        Check.noSuch("figures -1", () -> x.figures(5, -1, true));
        Check.noSuch("figures 10 ahead of n", () -> x.figures(-5, 10, true));
        Check.illegal("figures n -1", () -> x.figures(-1, 5, true));
        Check.illegal("figures n too much", () -> x.figures(most + 1, 0, false));
    }

    static void p32Split() {
        MeshWaters x = new MeshWaters();
        Check.due("split 2 0", 556, x.split(2, 0));
        Check.due("split 2 1", 444, x.split(2, 1));
        Check.due("split 1 0", 1000, x.split(1, 0));
        Check.due("split 9 0", 112, x.split(9, 0));
        Check.due("split 9 8", 111, x.split(9, 8));
        Check.due("split 4 0: figures 1, 5, 9", 334, x.split(4, 0));
        x.waters(20, 39);
        Check.due("split 3 1", 10, x.split(3, 1));
        Check.due("split 3 2", 10, x.split(3, 2));
        Check.due("split 3 0", 0, x.split(3, 0));
        x.waters(MOST, MOST);
        Check.due("split of the most", 1, x.split(9, 0));
        Check.illegal("split 0", () -> x.split(0, 0));
        Check.illegal("split 10", () -> x.split(10, 0));
        Check.illegal("split 0 ahead of i", () -> x.split(0, -1));
        Check.noSuch("split i -1", () -> x.split(3, -1));
        Check.noSuch("split i 3", () -> x.split(3, 3));
    }

    private static void roundIs(MeshWaters x, int first, int later) {
        Check.due("round 0", first, x.round(0));
        Check.due("round 1", later, x.round(1));
    }

    static void p33Round() {
        roundIs(new MeshWaters(), 0, 1);
        roundIs(Check.of("places 4;pond 0;spawns before;"), 0, 4);
        roundIs(Check.of("places 60;pond 0;spawns before;"), 0, 60);
        roundIs(Check.of("places 9;pond 0;spawns before or in;"), 8, 1);
        roundIs(Check.of("places 9;pond 0;spawns not in;"), 0, 2);
        MeshWaters x = Check.of("pond 3;spawns in and year<3;");
        roundIs(x, 0, 1);
        x.years(3);
        roundIs(x, 1, 1);
        Check.due("YEARS stay", 3, x.count(6));
        Check.due("TAKEN stay", 1, x.count(5));
        // 'year' stands still: as it goes on this pond would not be as it was so soon.
        roundIs(Check.of("places 9;spawns place=year;"), 1, 1);
        Check.noSuch("round 2", () -> x.round(2));
        Check.noSuch("round -1", () -> x.round(-1));
    }

    static void p33RoundWithinYears() {
        String rule = "spawns (in or after) and before+in+after<3;";
        // 15 YEARS and a round of 285, 51 and one of 250, 7 and one of 295: the first just within 300, the others not.
        roundIs(Check.of("places 19;pond 4 13 17;" + rule), 15, 285);
        roundIs(Check.of("places 25;pond 1 9 18;" + rule), NONE, NONE);
        MeshWaters x = Check.of("places 15;pond 4 10;" + rule);
        roundIs(x, NONE, NONE);
        x.years(1);
        roundIs(x, NONE, NONE);
        x.years(1);
        roundIs(x, 5, 295);
        x.years(200);
        roundIs(x, 0, 295);
    }

    static void p34Ends() {
        Check.due("ends of an empty one", 0, new MeshWaters().ends());
        Check.due("ends without a rule", NONE, Check.of("pond 2;").ends());
        Check.due("ends", 1, Check.of("pond 2;spawns 0;").ends());
        MeshWaters x = Check.of("pond 3;spawns in and year<3;");
        Check.due("ends", 4, x.ends());
        x.years(3);
        Check.due("ends", 1, x.ends());
        x.years(1);
        Check.due("ends", 0, x.ends());
        Check.due("YEARS stay", 4, x.count(6));
        Check.due("the last YEAR", 300, Check.of("pond 3;spawns in and year<299;").ends());
        Check.due("too late", NONE, Check.of("pond 3;spawns in and year<300;").ends());
        Check.due("it ends though it begins again", 1, Check.of("pond 3;spawns year;").ends());
    }

    static void p35See() {
        MeshWaters x = new MeshWaters();
        Check.due("see", 1, x.see(5));
        Check.due("see again", 2, x.see(5));
        Check.due("see the most", 3, x.see(MOST));
        Check.due("see 0", NONE, x.see(0));
        Check.due("see beyond", NONE, x.see(MOST + 1));
        for (int i = 4; i <= 12; i++) {
            Check.due("see", i, x.see(i));
        }
        Check.due("see the 13th", NONE, x.see(1));
        Check.due("STATUS 2", 3, x.count(14));
        Check.due("SEEN", 12, x.count(10));
        Check.due("wishes are others", 1, x.wish(5, true));
    }

    static void p36Fits() {
        MeshWaters x = Check.of("salted 2;salted 3;salted 5;salted 7;");
        Check.due("fits of none", 1, x.fits(0));
        Check.due("fits of none", 0, x.fits(1));
        Check.due("fits of none", 0, x.fits(2));
        x.see(12);
        Check.due("2, 3 or both", 3, x.fits(0));
        Check.due("the least", 1, x.fits(1));
        x.see(10);
        // Those of 2, 3 and 5 that catch 12 and 10: 2, 23, 25, 235, 35.
        Check.due("how many", 5, x.fits(0));
        Check.due("the least", 1, x.fits(1));
        x.see(9);
        Check.due("how many", 3, x.fits(0));
        Check.due("the least", 3, x.fits(1));
        x.see(11);
        x.see(13);
        x.see(13);
        Check.due("how many", 0, x.fits(0));
        Check.due("the least", NONE, x.fits(1));
        Check.due("poached", 3, x.fits(2));
        Check.noSuch("fits 3", () -> x.fits(3));
        Check.noSuch("fits -1", () -> x.fits(-1));
    }

    static void p37Fleets() {
        MeshWaters x = Check.of(NETS);
        Check.due("fleets", 2, x.fleets(0));
        Check.due("fleets", 3, x.fleets(1));
        Check.due("without NETS", 0, new MeshWaters().fleets(0));
        Check.due("without NETS", NONE, new MeshWaters().fleets(1));
        MeshWaters one = Check.of("salted 999;");
        one.waters(1, 5);
        Check.due("one NET", 1, one.fleets(0));
        Check.due("one NET", 0, one.fleets(1));
        // 2 catches 500, 6 166: the half of 500 is more than all of 166.
        MeshWaters y = Check.of("salted 6;salted 2;");
        Check.due("fleets", 1, y.fleets(0));
        Check.due("fleets", 11, y.fleets(1));
        // 15 numbers: 5 and 5, or the half of 5, cut down, of one NET.
        MeshWaters z = Check.of("mesh 3 0;mesh 3 1;mesh 3 2;");
        z.waters(1, 15);
        Check.due("fleets", 6, z.fleets(0));
        Check.due("fleets", 1, z.fleets(1));
        z.waters(1, 1);
        // Only NET 1 catches: its half, cut down, is nothing, as all else is.
        Check.due("fleets of 1", 5, z.fleets(0));
        Check.due("fleets of 1", 1, z.fleets(1));
        Check.noSuch("fleets 2", () -> x.fleets(2));
        Check.noSuch("fleets -1", () -> x.fleets(-1));
    }

    static void p38Days() {
        MeshWaters x = Check.of("salted 2;salted 3 from 10 to 20;");
        x.waters(10, 29);
        int seed = 77;
        int[] due = new int[3];
        for (int day = 1; day <= 300; day++) {
            seed = seed * 1103515245 + 12345;
            long number = 10 + (seed >>> 16 & 0x7fff) % 20;
            due[0] += number % 2 == 0 ? 1 : 0;
            due[1] += number % 3 == 0 && number <= 20 ? 1 : 0;
            due[2] += number % 2 != 0 && (number % 3 != 0 || number > 20) ? 1 : 0;
            Check.due("net 0", due[0], x.days(77, day, 0));
            Check.due("net 1", due[1], x.days(77, day, 1));
            Check.due("none", due[2], x.days(77, day, NONE));
        }
        x.lower(0, true);
        Check.due("LOWERED or not", due[0], x.days(77, 300, 0));
        Check.due("no days", 0, x.days(-5, 0, 1));
        Check.noSuch("net 2", () -> x.days(5, 3, 2));
        Check.noSuch("net -2 ahead of days", () -> x.days(5, -3, -2));
        Check.illegal("days -1", () -> x.days(5, -1, 0));
        Check.illegal("days 301", () -> x.days(5, 301, NONE));
    }

    static void p38DaysOfWideWaters() {
        MeshWaters x = Check.of("mesh 2 0 from 1 to 9999;salted 2;ending 4 0;");
        x.waters(1, MOST);
        int seed = -123456;
        int low = 0;
        for (int day = 1; day <= 300; day++) {
            seed = seed * 1103515245 + 12345;
            long number = 1 + (seed >>> 16 & 0x7fff) % 32768;
            low += number % 2 == 0 && number <= 9999 ? 1 : 0;
        }
        Check.due("of 32768 at most", low, x.days(-123456, 300, 0));
        x.waters(MOST, MOST);
        Check.due("one number", 300, x.days(4, 300, 2));
        Check.due("one number", 0, x.days(4, 300, NONE));
    }

    static void p39Image() {
        MeshWaters x = Check.of(NETS + "places 9;pond 3;spawns before;");
        x.waters(5, 50);
        x.image();
        x.waters(6, 60);
        x.image();
        x.waters(7, 70);
        Check.due("restore", true, x.restore());
        Check.due("the later IMAGE", 6, x.count(0));
        Check.due("no ACT", 2, x.count(7));
        Check.sea(x, "x");
        Check.due("restore behind a FAULT", true, x.restore());
        Check.sea(x, "week 1;");
        Check.due("restore behind a SEA", false, x.restore());
    }

    static void p40Restore() {
        MeshWaters x = Check.of(NETS + "places 9;pond 3;spawns before;");
        Check.due("restore", false, x.restore());
        x.waters(5, 50);
        x.lower(2, true);
        x.years(2);
        x.wish(8, true);
        x.wish(9, false);
        x.see(10);
        x.years(0);
        x.see(0);
        Check.sea(x, "#");
        x.image();
        long[] due = new long[15];
        for (int what = 0; what < 15; what++) {
            due[what] = x.count(what);
        }
        for (int again = 0; again < 2; again++) {
            x.undo();
            x.undo();
            x.undo();
            x.waters(1, 2);
            x.years(3);
            x.forget();
            x.see(4);
            x.see(4);
            x.wish(9, true);
            x.see(0);
            x.years(0);
            Check.sea(x, "##");
            Check.due("restore", true, x.restore());
            for (int what = 0; what < 15; what++) {
                Check.due("count " + what, due[what], x.count(what));
            }
            Check.due("pond 5", true, x.pond(5));
            Check.due("fits", 1, x.fits(0));
            Check.due("wish of one of them", NONE, x.wish(9, true));
            x.restore();
        }
        x.feed(0, 0, 0, 0, 0);
        x.restore();
        Check.due("the tape stays", 20, x.count(11));
        Check.due("the FAULT's place stays", 0, x.fault());
        Check.due("undo", 2, x.undo());
        Check.due("pond 3", true, x.pond(3));
        Check.due("undo", 1, x.undo());
        Check.due("undo", 0, x.undo());
        Check.due("LOW", 1, x.count(0));
        Check.due("undo", NONE, x.undo());
    }
}
