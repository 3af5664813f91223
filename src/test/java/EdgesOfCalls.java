import java.util.NoSuchElementException;

/** What each promise refuses, answers NONE to, or throws at, and what comes ahead of what. */
final class EdgesOfCalls {
    private static final long MOST = 1_000_000_000_000L;
    private static final int NONE = MeshWaters.NONE;
    private static final String NETS = "salted 2;salted 3;salted 5;";
    private static final Class<?> ILLEGAL = IllegalArgumentException.class;
    private static final Class<?> NO_SUCH = NoSuchElementException.class;

    private EdgesOfCalls() {
    }

    /** An object that has something of all. */
    private static MeshWaters full() {
        MeshWaters x = Check.of(NETS + "places 9;pond 0 4;spawns before;");
        x.waters(5, 50);
        x.lower(1, true);
        x.years(3);
        x.wish(6, true);
        x.wish(7, false);
        x.see(8);
        x.image();
        x.feed(1, 2, 3, 4, 5);
        return x;
    }

    @Says(promise = 1, value = "No NETS, a POND of 30 PLACES, none TAKEN, without a rule.")
    static void p01ANewObject() {
        MeshWaters x = new MeshWaters();
        Check.due("NETS", 0, x.count(2));
        Check.due("PLACES", 30, x.count(4));
        Check.due("TAKEN", 0, x.count(5));
        Check.due("without a rule", 0, x.years(200));
        Check.due("THE WATERS", 1000, x.all(0));
        Check.due("no IMAGE", false, x.restore());
        Check.due("no FAULT", NONE, x.fault());
        Check.due("an object by itself", 0, new MeshWaters().count(6));
    }

    @Says(promise = 2, value = "Twenty bytes come behind the tape, of each number the highest first: how many it has;")
    static void p02TwentyBytes() {
        MeshWaters x = new MeshWaters();
        // Bytes 0 to 19 but for one place, at which '#' stands.
        for (int at = 0; at < 20; at++) {
            int[] n = {0x20202020, 0x20202020, 0x20202020, 0x20202020, 0x20202020};
            n[at / 4] += 3 << 8 * (3 - at % 4);
            Check.due("feed", 20, x.feed(n[0], n[1], n[2], n[3], n[4]));
            Check.due("a FAULT", 1, x.sea(20));
            Check.due("at byte", at, x.fault());
        }
        x.feed(0x20202020, 0x20202020, 0x20202020, 0x20202020, 0x20202020);
        Check.due("twenty more", 40, x.feed(0x7765656b, 0x20313bff, 0xffffffff, Integer.MIN_VALUE, -1));
        Check.due("behind the first twenty", 1, x.sea(28));
        Check.due("a byte of 255", 27, x.fault());
    }

    @Says(promise = 2, value = "NONE, and none come, if it would have more than 500.")
    static void p02NoMoreThan500() {
        MeshWaters x = new MeshWaters();
        for (int i = 1; i <= 24; i++) {
            x.feed(0x20202020, 0x20202020, 0x20202020, 0x20202020, 0x20202020);
        }
        Check.due("480", 480, x.count(11));
        Check.due("500", 500, x.feed(0x20202020, 0x20202020, 0x20202020, 0x20202020, 0x20202020));
        Check.changesNothing("520", null, x, () -> x.feed(-1, -1, -1, -1, -1));
        Check.due("520", NONE, x.feed(-1, -1, -1, -1, -1));
        Check.due("none came", 0, x.sea(500));
        Check.due("empty again", 20, x.feed(0, 0, 0, 0, 0));
    }

    @Says(promise = 3, value = "The tape's first n bytes (it is empty then) are a SEA,")
    static void p03TheTapesFirstBytes() {
        for (int n = 0; n <= 14; n++) {
            MeshWaters x = new MeshWaters();
            Check.feed(x, "week 1;week 2;");
            Check.due("sea " + n, n % 7 == 0 ? 0 : 1, x.sea(n));
            Check.due("NETS of " + n, n % 7 == 0 ? n / 7 : 0, x.count(2));
            Check.due("the tape is empty", 0, x.count(11));
            Check.illegal("it has not a byte", () -> x.sea(1));
        }
        MeshWaters x = new MeshWaters();
        Check.feed(x, "week 1;week 2;");
        Check.due("all that it has", 0, x.sea(20));
        Check.due("nothing of an empty one", 0, x.sea(0));
        Check.due("which is a SEA without NETS", 0, x.count(2));
    }

    @Says(promise = 3, value = {"all anew: 0 (STATUS stays),", "ACTS, numbers WISHED, UNWISHED, SEEN, the image are gone."})
    static void p03AllAnew() {
        MeshWaters x = full();
        x.waters(0, 0);
        x.see(0);
        Check.sea(x, "?");
        Check.due("sea", 0, Check.sea(x, "week 3;places 7;pond 5;"));
        long[] due = {1, 1000, 1, 0, 7, 1, 0, 0, 0, 0, 0, 0, 1, 1, 1};
        for (int what = 0; what < due.length; what++) {
            Check.due("count " + what, due[what], x.count(what));
        }
        Check.due("no ACT", NONE, x.undo());
        Check.due("no IMAGE", false, x.restore());
        Check.due("no FAULT", NONE, x.fault());
        Check.due("no rule", 1, x.years(1));
        Check.due("PLACE 5", true, x.pond(5));
        Check.due("nothing WISHED", 0, x.fewest());
        Check.due("nothing SEEN", 1, x.fits(0));
        Check.due("a number that was WISHED", 1, x.wish(6, false));
    }

    /** The answers to many questions, the last of which let YEARS go by. */
    private static String answers(MeshWaters x) {
        StringBuilder all = new StringBuilder(Check.state(x));
        int sets = 1 << x.count(2);
        Check.illegal("no such SET", () -> x.all(sets));
        for (int set = 0; set < sets; set++) {
            all.append(' ').append(x.all(set)).append(' ').append(x.some(set)).append(' ').append(x.next(set, 77));
        }
        for (int k = 0; k <= x.count(2); k++) {
            all.append(" most ").append(x.most(k));
        }
        for (int number = 1; number <= 24; number++) {
            all.append(' ').append(x.nets(number));
        }
        all.append(" find ").append(x.find(4, 0)).append(' ').append(x.find(3, 1));
        all.append(" round ").append(x.round(0)).append(' ').append(x.round(1)).append(" ends ").append(x.ends());
        all.append(" years ").append(x.years(2)).append(' ');
        for (int place = 0; place < x.count(4); place++) {
            all.append(x.pond(place) ? '1' : '0');
        }
        return all.toString();
    }

    @Says(promise = 3, value = "all anew: 0 (STATUS stays),")
    static void p03AsANewObject() {
        String[] texts = {"mesh 6 1;mesh 4 3;mesh 10 7;places 60;pond 58 59;spawns 1;", "mesh 6 1;mesh 4 2;mesh 2 0;places 5;pond 0;spawns in and 0;",
            "", "salted 2;mesh 4 1;places 9;pond 1 2;spawns sums or after;", "places 9;pond 1 2;spawns before;", "places 9;pond 1 2;",
            "mesh 4 2;mesh 4 1;salted 4;places 6;pond 1 2;spawns sums;",
            "salted 100;mesh 2 1;twos 0;salted 2;places 7;pond 1;spawns not in;", "salted 99;places 7;pond 1 2;spawns in;"};
        for (String first : texts) {
            for (String then : texts) {
                MeshWaters x = Check.of(first);
                answers(x);
                Check.due("sea", 0, Check.sea(x, then));
                String due = answers(Check.of(then));
                String got = answers(x);
                Check.due(then + " behind " + first + ": " + got + ", due is " + due, true, due.equals(got));
            }
        }
        MeshWaters x = new MeshWaters();
        Check.sea(x, "week 1;places 7;pond 1;spawns in + sums; x");
        Check.sea(x, "pond 4;spawns before;");
        Check.due("what a FAULT was in is gone", 0, x.count(2));
        Check.due("PLACES", 30, x.count(4));
        Check.due("TAKEN", 1, x.count(5));
        x.years(1);
        Check.due("the rule", true, x.pond(5));
    }

    @Says(promise = 3, value = "or the FAULT (all else stays, but STATUS).")
    static void p03AllElseStays() {
        MeshWaters x = full();
        long[] due = new long[15];
        for (int what = 0; what < 15; what++) {
            due[what] = x.count(what);
        }
        due[11] = 0;
        due[12]++;
        Check.sea(x, "week 1;places 20;spawns in;x");
        for (int what = 0; what < 15; what++) {
            Check.due("count " + what, due[what], x.count(what));
        }
        Check.due("NET 0", 4, x.net(0, 0));
        Check.due("PLACE 3", true, x.pond(3));
        Check.due("PLACE 7", true, x.pond(7));
        Check.due("the rule", 2, x.years(1));
        Check.due("PLACE 8", true, x.pond(8));
        Check.due("WISHED", 1, x.fewest());
        Check.due("SEEN", 1, x.fits(0));
        Check.due("the IMAGE", true, x.restore());
    }

    @Says(promise = 3, value = "IllegalArgumentException: the tape has not so many, n below 0 (nothing changes).")
    static void p03NothingChanges() {
        MeshWaters x = full();
        Check.sea(x, "?");
        Check.feed(x, "week 1;");
        Check.changesNothing("one more", ILLEGAL, x, () -> x.sea(21));
        Check.changesNothing("-1", ILLEGAL, x, () -> x.sea(-1));
        Check.changesNothing("the last int", ILLEGAL, x, () -> x.sea(Integer.MAX_VALUE));
        Check.changesNothing("the first int", ILLEGAL, x, () -> x.sea(Integer.MIN_VALUE));
        Check.due("the tape is as it was", 0, x.sea(20));
        Check.due("NET 0", 3, x.net(0, 0));
        MeshWaters y = new MeshWaters();
        Check.illegal("1 of an empty tape", () -> y.sea(1));
        for (int i = 0; i < 25; i++) {
            y.feed(0x20202020, 0x20202020, 0x20202020, 0x20202020, 0x20202020);
        }
        Check.illegal("501 of a full tape", () -> y.sea(501));
        Check.due("500 of a full tape", 0, y.sea(500));
    }

    @Says(promise = 4, value = "The place of the latest sea()'s FAULT; NONE without.")
    static void p04ThePlaceOfTheLatestFault() {
        MeshWaters x = new MeshWaters();
        Check.due("no SEA yet", NONE, x.fault());
        Check.sea(x, "   ?");
        Check.due("3", 3, x.fault());
        Check.sea(x, "?");
        Check.due("the latest", 0, x.fault());
        Check.illegal("no SEA", () -> x.sea(5));
        Check.due("the latest yet", 0, x.fault());
        Check.sea(x, "week 1;");
        Check.due("without", NONE, x.fault());
        Check.sea(x, " ".repeat(500));
        Check.due("without", NONE, x.fault());
        Check.sea(x, " ".repeat(496) + "week");
        Check.due("500", 500, x.fault());
    }

    @Says(promise = 5, value = "0 LOW, 1 HIGH, 2 NETS, 3 what is LOWERED (bits), 4 PLACES, 5 how many are TAKEN, 6 YEARS that there were, 7 ACTS that are kept,"
        + " 8 how many are WISHED, 9 UNWISHED, 10 SEEN, 11 bytes of the tape, 12 to 14 STATUS 0 to 2.")
    static void p05EachCount() {
        MeshWaters x = Check.of("week 0;week 1;week 2;week 3;week 4;week 5;week 6;salted 2;places 60;pond 1 2 3;");
        x.waters(MOST - 1, MOST);
        for (int net = 0; net < 8; net++) {
            x.lower(net, true);
        }
        x.years(200);
        x.years(200);
        for (int i = 1; i <= 5; i++) {
            x.wish(i, i < 5);
        }
        x.see(9);
        x.see(9);
        x.feed(0, 0, 0, 0, 0);
        x.sea(1);
        x.feed(0, 0, 0, 0, 0);
        x.years(201);
        x.years(-1);
        for (int i = 0; i < 3; i++) {
            x.see(-1);
        }
        long[] due = {MOST - 1, MOST, 8, 255, 60, 3, 400, 11, 4, 1, 2, 20, 1, 2, 3};
        for (int what = 0; what < due.length; what++) {
            Check.due("count " + what, due[what], x.count(what));
        }
    }

    @Says(promise = 5, value = "NoSuchElementException: another what.")
    static void p05AnotherWhat() {
        MeshWaters x = full();
        Check.changesNothing("-1", NO_SUCH, x, () -> x.count(-1));
        Check.changesNothing("15", NO_SUCH, x, () -> x.count(15));
        Check.noSuch("the last int", () -> x.count(Integer.MAX_VALUE));
        Check.noSuch("the first int", () -> x.count(Integer.MIN_VALUE));
        Check.due("14", 0, x.count(14));
    }

    @Says(promise = 6, value = "Of a NET: 0 KIND, 1 MESH, 2 REST, 3 FROM, 4 TO.")
    static void p06OfANet() {
        MeshWaters x = Check.of("week 2;twos 20 from 7 to 77;");
        long[][] due = {{3, 7, 2, 1, MOST}, {1, 2097152, 1048576, 7, 77}};
        for (int net = 0; net < 2; net++) {
            for (int what = 0; what < 5; what++) {
                Check.due("net " + net + " " + what, due[net][what], x.net(net, what));
            }
        }
    }

    @Says(promise = 6, value = "NoSuchElementException: no such NET (as everywhere), what.")
    static void p06NoSuchNet() {
        MeshWaters x = full();
        Check.changesNothing("NET 3", NO_SUCH, x, () -> x.net(3, 0));
        Check.changesNothing("NET -1", NO_SUCH, x, () -> x.net(-1, 0));
        Check.changesNothing("what 5", NO_SUCH, x, () -> x.net(0, 5));
        Check.changesNothing("what -1", NO_SUCH, x, () -> x.net(0, -1));
        Check.noSuch("neither", () -> x.net(9, 9));
        Check.due("NET 2", 5, x.net(2, 1));
        Check.noSuch("lower NET 3", () -> x.lower(3, true) ? 1 : 0);
        Check.noSuch("days of NET 3", () -> x.days(1, 1, 3));
    }

    @Says(promise = 7, value = {"Whether a PLACE is TAKEN.", "NoSuchElementException: no such PLACE."})
    static void p07WhetherAPlaceIsTaken() {
        MeshWaters x = Check.of("places 60;pond 0 31 32 59;");
        for (int place = 0; place < 60; place++) {
            Check.due("pond " + place, place == 0 || place == 31 || place == 32 || place == 59, x.pond(place));
        }
        Check.changesNothing("PLACE 60", NO_SUCH, x, () -> x.pond(60) ? 1 : 0);
        Check.changesNothing("PLACE -1", NO_SUCH, x, () -> x.pond(-1) ? 1 : 0);
        Check.noSuch("the last int", () -> x.pond(Integer.MAX_VALUE) ? 1 : 0);
        MeshWaters two = Check.of("places 2;pond 1;");
        Check.due("PLACE 1 of 2", true, two.pond(1));
        Check.noSuch("PLACE 2 of 2", () -> two.pond(2) ? 1 : 0);
    }

    @Says(promise = 8, value = "An ACT: THE WATERS become others: true.")
    static void p08WatersBecomeOthers() {
        MeshWaters x = new MeshWaters();
        Check.due("waters", true, x.waters(3, 4));
        Check.due("LOW", 3, x.count(0));
        Check.due("HIGH", 4, x.count(1));
        Check.due("an ACT", 1, x.count(7));
        Check.due("STATUS 1", 0, x.count(13));
    }

    @Says(promise = 8, value = "False (STATUS 1): they are not as told.")
    static void p08NotAsTold() {
        MeshWaters x = full();
        long[][] wrong = {{0, 5}, {-1, 5}, {5, 4}, {5, MOST + 1}, {MOST + 1, MOST + 1}, {0, 0}, {MOST, 1}, {Long.MIN_VALUE, Long.MAX_VALUE}};
        for (int i = 0; i < wrong.length; i++) {
            Check.due("waters " + wrong[i][0] + " " + wrong[i][1], false, x.waters(wrong[i][0], wrong[i][1]));
            Check.due("STATUS 1", i + 1, x.count(13));
        }
        Check.due("LOW", 5, x.count(0));
        Check.due("HIGH", 50, x.count(1));
        Check.due("ACTS", 3, x.count(7));
    }

    @Says(promise = 9, value = "An ACT: a NET is LOWERED, or RAISED: true.")
    static void p09LoweredOrRaised() {
        MeshWaters x = Check.of(NETS);
        Check.due("lower", true, x.lower(2, true));
        Check.due("LOWERED", 4, x.count(3));
        Check.due("raise", true, x.lower(2, false));
        Check.due("LOWERED", 0, x.count(3));
        Check.due("two ACTS", 2, x.count(7));
        Check.due("STATUS 1", 0, x.count(13));
    }

    @Says(promise = 9, value = "False (STATUS 1): it is so already.")
    static void p09SoAlready() {
        MeshWaters x = Check.of(NETS);
        Check.due("RAISED at first", false, x.lower(0, false));
        x.lower(0, true);
        Check.due("LOWERED", false, x.lower(0, true));
        Check.due("STATUS 1", 2, x.count(13));
        Check.due("LOWERED yet", 1, x.count(3));
        Check.due("one ACT", 1, x.count(7));
        x.undo();
        Check.due("RAISED by undo", false, x.lower(0, false));
        Check.changesNothing("no such NET", NO_SUCH, x, () -> x.lower(3, false) ? 1 : 0);
        Check.changesNothing("no such NET", NO_SUCH, x, () -> x.lower(-1, true) ? 1 : 0);
        Check.changesNothing("no such NET", NO_SUCH, x, () -> x.lower(32, true) ? 1 : 0);
    }

    @Says(promise = 10, value = {"An ACT: YEARS go by: how many PLACES are TAKEN then.", "NONE (STATUS 1): not 1 to 200."})
    static void p10YearsGoBy() {
        MeshWaters x = Check.of("places 9;pond 0;spawns in or before;");
        Check.due("0", NONE, x.years(0));
        Check.due("-1", NONE, x.years(-1));
        Check.due("201", NONE, x.years(201));
        Check.due("the first int", NONE, x.years(Integer.MIN_VALUE));
        Check.due("STATUS 1", 4, x.count(13));
        Check.due("no ACT", 0, x.count(7));
        Check.due("YEARS", 0, x.count(6));
        Check.due("1", 2, x.years(1));
        Check.due("3", 5, x.years(3));
        Check.due("200", 9, x.years(200));
        Check.due("three ACTS", 3, x.count(7));
        Check.due("YEARS", 204, x.count(6));
        Check.due("STATUS 1", 4, x.count(13));
    }

    @Says(promise = 11, value = {"The last ACT is UNDONE: how many are left.", "NONE: there is none."})
    static void p11TheLastActIsUndone() {
        MeshWaters x = Check.of(NETS);
        Check.changesNothing("no ACT", null, x, () -> x.undo());
        Check.due("no ACT", NONE, x.undo());
        x.waters(3, 4);
        Check.due("the only one", 0, x.undo());
        Check.due("none is left", NONE, x.undo());
        Check.due("LOW", 1, x.count(0));
        x.waters(3, 4);
        x.lower(0, true);
        Check.due("the last of two", 1, x.undo());
        Check.due("LOW", 3, x.count(0));
        x.waters(0, 0);
        Check.due("what was refused was no ACT", 0, x.undo());
        Check.due("LOW", 1, x.count(0));
    }

    @Says(promise = 12, value = "NETS that catch a number, as bits (be it in THE WATERS or not).")
    static void p12NetsThatCatchANumber() {
        MeshWaters x = Check.of(NETS);
        Check.due("7", 0, x.nets(7));
        Check.due("30", 7, x.nets(30));
        x.waters(1, 29);
        Check.due("30, out of THE WATERS", 7, x.nets(30));
        x.waters(31, 40);
        Check.due("30, out of THE WATERS", 7, x.nets(30));
        Check.due("LOWERED or not", true, x.lower(0, true));
        Check.due("30", 7, x.nets(30));
        MeshWaters y = Check.of("twos 0;twos 0;twos 0;twos 0;twos 0;twos 0;twos 0;twos 0;");
        Check.due("all eight", 255, y.nets(1));
    }

    @Says(promise = 12, value = "IllegalArgumentException: it is not 1 to 10 to the power of 12.")
    static void p12OneToTheMost() {
        MeshWaters x = full();
        Check.changesNothing("0", ILLEGAL, x, () -> x.nets(0));
        Check.changesNothing("-1", ILLEGAL, x, () -> x.nets(-1));
        Check.changesNothing("one more", ILLEGAL, x, () -> x.nets(MOST + 1));
        Check.illegal("the last long", () -> x.nets(Long.MAX_VALUE));
        Check.illegal("the first long", () -> x.nets(Long.MIN_VALUE));
        Check.due("1", 0, x.nets(1));
        Check.due("the most", 5, x.nets(MOST));
    }

    @Says(promise = 13, value = {"CAUGHT by ALL.", "IllegalArgumentException: no such SET (as everywhere)."})
    static void p13CaughtByAll() {
        MeshWaters x = full();
        Check.due("by 2, 3 and 5", 1, x.all(7));
        Check.due("by none", 46, x.all(0));
        int[] none = {-1, 8, 256, Integer.MAX_VALUE, Integer.MIN_VALUE};
        for (int set : none) {
            Check.illegal("all " + set, () -> x.all(set));
            Check.illegal("some " + set, () -> x.some(set));
            Check.illegal("just " + set, () -> x.just(set, 0));
            Check.illegal("next " + set, () -> x.next(set, 1));
            Check.illegal("place " + set, () -> x.place(set, 0));
        }
        Check.changesNothing("no such SET", ILLEGAL, x, () -> x.all(8));
    }

    @Says(promise = 14, value = "CAUGHT by SOME.")
    static void p14CaughtBySome() {
        MeshWaters x = full();
        Check.due("by 2, 3 or 5", 33, x.some(7));
        Check.due("by none", 0, x.some(0));
        Check.changesNothing("no such SET", ILLEGAL, x, () -> x.some(8));
    }

    @Says(promise = 15, value = {"CAUGHT by JUST k.", "IllegalArgumentException: also k is not 0 to 8."})
    static void p15CaughtByJust() {
        MeshWaters x = full();
        long[] due = {13, 19, 13, 1, 0, 0, 0, 0, 0};
        for (int k = 0; k <= 8; k++) {
            Check.due("just " + k, due[k], x.just(7, k));
        }
        Check.changesNothing("k -1", ILLEGAL, x, () -> x.just(7, -1));
        Check.changesNothing("k 9", ILLEGAL, x, () -> x.just(7, 9));
        Check.illegal("the last int", () -> x.just(7, Integer.MAX_VALUE));
        Check.due("k 8 of no NETS", 0, new MeshWaters().just(0, 8));
    }

    @Says(promise = 16, value = "THE HAUL.")
    static void p16TheHaul() {
        MeshWaters x = full();
        Check.due("by 3", 15, x.haul());
        x.lower(1, false);
        Check.due("by none", 0, x.haul());
        Check.due("without NETS", 0, new MeshWaters().haul());
    }

    @Says(promise = 17, value = "THE NEXT; NONE: none.")
    static void p17TheNext() {
        MeshWaters x = full();
        Check.due("30", 30, x.next(7, 30));
        Check.due("none behind it", NONE, x.next(7, 31));
        Check.due("HIGH", 50, x.next(0, 50));
        Check.due("behind HIGH", NONE, x.next(0, 51));
        Check.due("LOW", 5, x.next(0, 4));
        Check.due("any number will do", 5, x.next(0, -MOST));
        Check.due("any number will do", NONE, x.next(0, MOST + 1));
    }

    @Says(promise = 18, value = {"THE HOW MANIETH; NONE: there are not so many.", "IllegalArgumentException: also i is below 0."})
    static void p18TheHowManieth() {
        MeshWaters x = full();
        Check.due("0", 6, x.place(1, 0));
        Check.due("22", 50, x.place(1, 22));
        Check.due("23", NONE, x.place(1, 23));
        Check.changesNothing("-1", ILLEGAL, x, () -> x.place(1, -1));
        Check.illegal("the first long", () -> x.place(1, Long.MIN_VALUE));
        Check.illegal("no such SET either", () -> x.place(8, -1));
    }

    @Says(promise = 19, value = {"THE MOST, as bits.", "IllegalArgumentException: k is not 0 to how many NETS there are."})
    static void p19TheMost() {
        MeshWaters x = full();
        int[] due = {0, 1, 3, 7};
        for (int k = 0; k <= 3; k++) {
            Check.due("most " + k, due[k], x.most(k));
        }
        Check.changesNothing("-1", ILLEGAL, x, () -> x.most(-1));
        Check.changesNothing("4", ILLEGAL, x, () -> x.most(4));
        MeshWaters none = new MeshWaters();
        Check.due("0 of no NETS", 0, none.most(0));
        Check.illegal("1 of no NETS", () -> none.most(1));
    }

    @Says(promise = 20, value = "A number is WISHED, or UNWISHED: how many of both there are.")
    static void p20HowManyOfBoth() {
        MeshWaters x = new MeshWaters();
        Check.due("WISHED", 1, x.wish(5, true));
        Check.due("UNWISHED", 2, x.wish(6, false));
        Check.due("WISHED", 3, x.wish(7, true));
        Check.due("WISHED", 2, x.count(8));
        Check.due("UNWISHED", 1, x.count(9));
        Check.due("no ACT", 0, x.count(7));
    }

    @Says(promise = 20, value = "NONE (STATUS 2): there are 12, it is not as told, it is one of them.")
    static void p20WhatIsRefused() {
        MeshWaters x = new MeshWaters();
        x.wish(5, true);
        x.wish(6, false);
        Check.due("WISHED already", NONE, x.wish(5, true));
        Check.due("WISHED already", NONE, x.wish(5, false));
        Check.due("UNWISHED already", NONE, x.wish(6, true));
        Check.due("UNWISHED already", NONE, x.wish(6, false));
        Check.due("0", NONE, x.wish(0, true));
        Check.due("one more than the most", NONE, x.wish(MOST + 1, false));
        Check.due("STATUS 2", 6, x.count(14));
        Check.due("the most", 3, x.wish(MOST, false));
        Check.due("SEEN is another matter", 1, x.see(5));
        for (int i = 4; i <= 12; i++) {
            Check.due("wish", i, x.wish(100 + i, true));
        }
        Check.due("the 13th", NONE, x.wish(200, true));
        Check.due("the 13th", NONE, x.wish(200, false));
        Check.due("STATUS 2", 8, x.count(14));
        Check.due("WISHED", 10, x.count(8));
        Check.due("UNWISHED", 2, x.count(9));
    }

    @Says(promise = 21, value = "All WISHED, UNWISHED and SEEN numbers are forgotten.")
    static void p21AllAreForgotten() {
        MeshWaters x = new MeshWaters();
        for (int i = 1; i <= 12; i++) {
            x.wish(i, i % 2 == 0);
            x.see(i);
        }
        x.forget();
        Check.due("WISHED", 0, x.count(8));
        Check.due("UNWISHED", 0, x.count(9));
        Check.due("SEEN", 0, x.count(10));
        Check.due("the first WISHED one anew", 1, x.wish(2, false));
        Check.due("the first SEEN one anew", 1, x.see(2));
        MeshWaters gone = Check.of(NETS);
        for (int i = 1; i <= 12; i++) {
            gone.wish(30 * i + 1, true);
            gone.see(7 * i);
        }
        gone.forget();
        gone.wish(9, false);
        gone.see(10);
        // What is forgotten counts for nothing, though more was told than now.
        Check.due("A NEW MESH without the forgotten ones", 2000, gone.mesh(999));
        Check.due("THE FEWEST NETS without them", 0, gone.fewest());
        Check.due("FITS without them", 3, gone.fits(0));
        Check.due("POACHED without them", 0, gone.fits(2));
        MeshWaters y = full();
        y.forget();
        Check.due("ACTS stay", 3, y.count(7));
        Check.due("the IMAGE stays", true, y.restore());
        Check.due("and what it keeps", 1, y.count(8));
        MeshWaters z = new MeshWaters();
        Check.changesNothing("nothing to forget", null, z, () -> {
            z.forget();
            return 0;
        });
    }

    @Says(promise = 22, value = "THE FEWEST NETS, as bits (0: nothing is WISHED); NONE: none.")
    static void p22TheFewestNets() {
        MeshWaters x = Check.of(NETS);
        Check.due("nothing is WISHED", 0, x.fewest());
        x.wish(2, false);
        Check.due("nothing is WISHED", 0, x.fewest());
        x.wish(15, true);
        Check.due("3", 2, x.fewest());
        x.wish(3, false);
        Check.due("5", 4, x.fewest());
        x.wish(9, true);
        Check.due("none", NONE, x.fewest());
    }

    @Says(promise = 23, value = {"A NEW MESH: 1000 by MESH and REST; NONE: none.", "IllegalArgumentException: it is not up to 2 to 999."})
    static void p23ANewMesh() {
        MeshWaters x = full();
        Check.changesNothing("1", ILLEGAL, x, () -> x.mesh(1));
        Check.changesNothing("1000", ILLEGAL, x, () -> x.mesh(1000));
        Check.illegal("0", () -> x.mesh(0));
        Check.illegal("-1", () -> x.mesh(-1));
        Check.due("6, not 7", 2000, x.mesh(2));
        Check.due("6, not 7", 2000, x.mesh(999));
        x.forget();
        x.wish(7, true);
        x.wish(9, false);
        Check.due("2 catches 9", NONE, x.mesh(2));
        Check.due("3 does not", 3001, x.mesh(3));
    }

    @Says(promise = 24, value = "TO FIND: how many HAULS (what 0), the first NET (1); NONE: none.")
    static void p24HowManyHauls() {
        MeshWaters x = Check.of("salted 3;salted 2;mesh 4 1;");
        Check.due("HAULS", 2, x.find(3, 0));
        Check.due("the first NET", 0, x.find(3, 1));
        Check.due("HAULS for 1", 0, x.find(1, 0));
        Check.due("no NET for 1", NONE, x.find(1, 1));
        Check.due("6 is 3 and 2, 12 too", NONE, x.find(12, 0));
        Check.due("6 is 3 and 2, 12 too", NONE, x.find(12, 1));
    }

    @Says(promise = 24, value = {"NoSuchElementException: another what.", "IllegalArgumentException (behind that): n."})
    static void p24WhatAheadOfN() {
        MeshWaters x = full();
        Check.changesNothing("what 2", NO_SUCH, x, () -> x.find(3, 2));
        Check.changesNothing("what -1", NO_SUCH, x, () -> x.find(3, -1));
        Check.changesNothing("n 0", ILLEGAL, x, () -> x.find(0, 0));
        Check.changesNothing("n 61", ILLEGAL, x, () -> x.find(61, 1));
        Check.noSuch("neither", () -> x.find(0, 2));
        Check.noSuch("neither", () -> x.find(61, -1));
    }

    @Says(promise = 25, value = "PARTS: the i-th prime (often false), how often it is in it (true); i NONE: how many primes there are.")
    static void p25TheIthPrime() {
        MeshWaters x = new MeshWaters();
        Check.due("how many", 2, x.parts(72, NONE, false));
        Check.due("how many", 2, x.parts(72, NONE, true));
        Check.due("the first", 2, x.parts(72, 0, false));
        Check.due("how often", 3, x.parts(72, 0, true));
        Check.due("the second", 3, x.parts(72, 1, false));
        Check.due("how often", 2, x.parts(72, 1, true));
    }

    @Says(promise = 25, value = {"NoSuchElementException: there is none.", "IllegalArgumentException (ahead): the number."})
    static void p25TheNumberAheadOfI() {
        MeshWaters x = full();
        Check.changesNothing("i 2", NO_SUCH, x, () -> x.parts(72, 2, false));
        Check.changesNothing("i -2", NO_SUCH, x, () -> x.parts(72, -2, true));
        Check.noSuch("the last int", () -> x.parts(72, Integer.MAX_VALUE, true));
        Check.noSuch("0 of 1", () -> x.parts(1, 0, false));
        Check.changesNothing("0", ILLEGAL, x, () -> x.parts(0, NONE, false));
        Check.illegal("one more", () -> x.parts(1_000_000_001, NONE, true));
        Check.illegal("neither", () -> x.parts(0, 99, false));
        Check.illegal("neither", () -> x.parts(1_000_000_001, -2, false));
    }

    @Says(promise = 26, value = "How many divide it (what 0), what they add up to without it (1), its SORT (2), HALVED: how often (3), what is left (4).")
    static void p26WhatDivides() {
        MeshWaters x = new MeshWaters();
        long[] due = {6, 16, 2, 2, 3};
        for (int what = 0; what < 5; what++) {
            Check.due("divided 12 " + what, due[what], x.divided(12, what));
        }
    }

    @Says(promise = 26, value = "NoSuchElementException (behind IllegalArgumentException): another what.")
    static void p26TheNumberAheadOfWhat() {
        MeshWaters x = full();
        Check.changesNothing("what 5", NO_SUCH, x, () -> x.divided(12, 5));
        Check.changesNothing("what -1", NO_SUCH, x, () -> x.divided(12, -1));
        Check.changesNothing("0", ILLEGAL, x, () -> x.divided(0, 0));
        Check.illegal("one more", () -> x.divided(1_000_000_001, 4));
        Check.illegal("neither", () -> x.divided(0, 5));
        Check.illegal("neither", () -> x.divided(1_000_000_001, -1));
        Check.due("the most", 9, x.divided(1_000_000_000, 3));
    }

    @Says(promise = 27, value = {"THE SPAN.", "IllegalArgumentException: a, b."})
    static void p27TheSpan() {
        MeshWaters x = full();
        Check.due("1 to 10", 4, x.primes(1, 10));
        Check.changesNothing("a 0", ILLEGAL, x, () -> x.primes(0, 10));
        Check.changesNothing("b below a", ILLEGAL, x, () -> x.primes(10, 9));
        Check.changesNothing("2001 more", ILLEGAL, x, () -> x.primes(10, 2011));
        Check.due("2000 more", 300, x.primes(10, 2010));
        Check.illegal("b too much", () -> x.primes(1_000_000_000, 1_000_000_001));
    }

    @Says(promise = 28, value = {"The next prime; NONE: none.", "IllegalArgumentException: the number is not 1 to 10 to the power of 9."})
    static void p28TheNextPrime() {
        MeshWaters x = full();
        Check.due("1", 2, x.prime(1));
        Check.due("the most", 1_000_000_007, x.prime(1_000_000_000));
        Check.changesNothing("0", ILLEGAL, x, () -> x.prime(0));
        Check.changesNothing("one more", ILLEGAL, x, () -> x.prime(1_000_000_001));
        Check.illegal("the first int", () -> x.prime(Integer.MIN_VALUE));
        Check.illegal("the last int", () -> x.prime(Integer.MAX_VALUE));
    }

    @Says(promise = 29, value = {"A SHOAL (0, if it is no prime).", "IllegalArgumentException: n."})
    static void p29AShoal() {
        MeshWaters x = full();
        Check.due("7 of 100", 4, x.shoal(7, 100));
        int[] no = {Integer.MIN_VALUE, -7, -2, -1, 0, 1, 4, 9, 25, 99, 100, 101, Integer.MAX_VALUE};
        for (int number : no) {
            Check.due("no prime, or beyond n: " + number, 0, x.shoal(number, 100));
        }
        Check.changesNothing("n 1", ILLEGAL, x, () -> x.shoal(2, 1));
        Check.changesNothing("n 100001", ILLEGAL, x, () -> x.shoal(2, 100001));
        Check.illegal("neither", () -> x.shoal(4, 1));
        Check.illegal("neither", () -> x.shoal(-1, 0));
    }

    @Says(promise = 30, value = {"LICENCES: of 1 to n whose sum has a remainder by m.", "IllegalArgumentException: n, m, the remainder is not 0 to m less 1."})
    static void p30SumsWithARemainder() {
        MeshWaters x = full();
        Check.due("12 of 20 by 3", 6, x.sums(20, 3, 0));
        Check.due("rest 0 of 1", 20, x.sums(20, 1, 0));
        Check.due("rest 49 of 50", 0, x.sums(20, 50, 49));
        Check.changesNothing("n -1", ILLEGAL, x, () -> x.sums(-1, 3, 0));
        Check.changesNothing("n too much", ILLEGAL, x, () -> x.sums(1_000_000_000_000_001L, 3, 0));
        Check.changesNothing("m 0", ILLEGAL, x, () -> x.sums(20, 0, 0));
        Check.changesNothing("m 51", ILLEGAL, x, () -> x.sums(20, 51, 0));
        Check.illegal("rest -1", () -> x.sums(20, 3, -1));
        Check.due("rest 2 of 3", 7, x.sums(20, 3, 2));
        Check.illegal("rest 3 of 3", () -> x.sums(20, 3, 3));
        Check.illegal("rest 1 of 1", () -> x.sums(20, 1, 1));
        Check.illegal("rest 50 of 50", () -> x.sums(20, 50, 50));
    }

    @Says(promise = 31, value = "LICENCES: of 1 to n with a figure as the first (anywhere false; with 0: none), with it anywhere (true).")
    static void p31FirstOrAnywhere() {
        MeshWaters x = new MeshWaters();
        Check.due("1 as the first", 11, x.figures(31, 1, false));
        Check.due("1 anywhere", 13, x.figures(31, 1, true));
        Check.due("0 as the first", 0, x.figures(31, 0, false));
        Check.due("0 anywhere", 3, x.figures(31, 0, true));
        Check.due("9 as the first", 1, x.figures(31, 9, false));
        Check.due("9 anywhere", 3, x.figures(31, 9, true));
    }

    @Says(promise = 31, value = {"IllegalArgumentException: n.", "NoSuchElementException (ahead): no such figure (0 to 9)."})
    static void p31TheFigureAheadOfN() {
        MeshWaters x = full();
        for (boolean anywhere : new boolean[] {false, true}) {
            Check.changesNothing("figure -1", NO_SUCH, x, () -> x.figures(31, -1, anywhere));
            Check.changesNothing("figure 10", NO_SUCH, x, () -> x.figures(31, 10, anywhere));
            Check.illegal("n -1", () -> x.figures(-1, 0, anywhere));
            Check.illegal("n too much", () -> x.figures(1_000_000_000_000_001L, 9, anywhere));
            Check.noSuch("neither", () -> x.figures(-1, -1, anywhere));
            Check.noSuch("neither", () -> x.figures(1_000_000_000_000_001L, 10, anywhere));
        }
    }

    @Says(promise = 32, value = "SPLIT: how many the i-th (0 on) of k has.")
    static void p32TheIthOfK() {
        MeshWaters x = new MeshWaters();
        x.waters(10, 99);
        Check.due("0 of 2", 50, x.split(2, 0));
        Check.due("1 of 2", 40, x.split(2, 1));
    }

    @Says(promise = 32, value = {"IllegalArgumentException: k.", "NoSuchElementException (behind that): i."})
    static void p32KAheadOfI() {
        MeshWaters x = full();
        Check.changesNothing("k 0", ILLEGAL, x, () -> x.split(0, 0));
        Check.changesNothing("k 10", ILLEGAL, x, () -> x.split(10, 0));
        Check.illegal("k -1", () -> x.split(-1, 0));
        Check.changesNothing("i -1", NO_SUCH, x, () -> x.split(3, -1));
        Check.changesNothing("i 3 of 3", NO_SUCH, x, () -> x.split(3, 3));
        Check.noSuch("i 1 of 1", () -> x.split(1, 1));
        Check.noSuch("i 9 of 9", () -> x.split(9, 9));
        Check.illegal("neither", () -> x.split(0, -1));
        Check.illegal("neither", () -> x.split(10, 10));
        Check.due("i 2 of 3", 12, x.split(3, 2));
    }

    @Says(promise = 33, value = {"AS IT WAS: the first YEAR (what 0), how many later (1); NONE: none.", "NoSuchElementException: another what."})
    static void p33AsItWas() {
        MeshWaters x = full();
        Check.due("the first YEAR", 0, x.round(0));
        Check.due("how many later", 9, x.round(1));
        Check.changesNothing("what 2", NO_SUCH, x, () -> x.round(2));
        Check.changesNothing("what -1", NO_SUCH, x, () -> x.round(-1));
        MeshWaters none = Check.of("places 25;pond 1 9 18;spawns (in or after) and before+in+after<3;");
        Check.due("none", NONE, none.round(0));
        Check.due("none", NONE, none.round(1));
    }

    @Says(promise = 34, value = "ENDS; NONE: none.")
    static void p34Ends() {
        Check.due("0", 0, new MeshWaters().ends());
        Check.due("2", 2, Check.of("pond 1;spawns in and year<1;").ends());
        MeshWaters x = full();
        Check.changesNothing("none", null, x, () -> x.ends());
        Check.due("none", NONE, x.ends());
    }

    @Says(promise = 35, value = {"A number is SEEN: how many are.", "NONE (STATUS 2): there are 12, it is not 1 to 10 to the power of 12."})
    static void p35ANumberIsSeen() {
        MeshWaters x = new MeshWaters();
        Check.due("0", NONE, x.see(0));
        Check.due("-1", NONE, x.see(-1));
        Check.due("one more than the most", NONE, x.see(MOST + 1));
        Check.due("STATUS 2", 3, x.count(14));
        Check.due("1", 1, x.see(1));
        Check.due("1 again", 2, x.see(1));
        Check.due("the most", 3, x.see(MOST));
        for (int i = 4; i <= 12; i++) {
            Check.due("see", i, x.see(i));
        }
        Check.due("the 13th", NONE, x.see(20));
        Check.due("STATUS 2", 4, x.count(14));
        Check.due("SEEN", 12, x.count(10));
        Check.due("WISHED is another matter", 1, x.wish(20, true));
    }

    @Says(promise = 36, value = {"FITS: how many (what 0), the least (1; NONE: none), POACHED (2).", "NoSuchElementException: another what."})
    static void p36Fits() {
        MeshWaters x = full();
        Check.due("how many", 1, x.fits(0));
        Check.due("the least", 1, x.fits(1));
        Check.due("POACHED", 0, x.fits(2));
        x.see(7);
        Check.due("how many", 0, x.fits(0));
        Check.due("none", NONE, x.fits(1));
        Check.due("POACHED", 1, x.fits(2));
        Check.changesNothing("what 3", NO_SUCH, x, () -> x.fits(3));
        Check.changesNothing("what -1", NO_SUCH, x, () -> x.fits(-1));
    }

    @Says(promise = 37, value = {"FLEETS: how many couples rest (what 0), the first: 10 by the first one's NET and the second's (1; NONE: none rests).",
        "NoSuchElementException: another what."})
    static void p37Fleets() {
        MeshWaters x = full();
        // 2 catches 23, 3 catches 15, 8 of them the same: 11 each by 2 alone, 19 and 11 by 2 and 3.
        Check.due("how many", 3, x.fleets(0));
        Check.due("the first", 0, x.fleets(1));
        Check.changesNothing("what 2", NO_SUCH, x, () -> x.fleets(2));
        Check.changesNothing("what -1", NO_SUCH, x, () -> x.fleets(-1));
        MeshWaters none = new MeshWaters();
        Check.due("no couples", 0, none.fleets(0));
        Check.due("none rests", NONE, none.fleets(1));
    }

    @Says(promise = 38, value = "DAYS: how often a NET catches it (NONE: none does).")
    static void p38Days() {
        MeshWaters x = Check.of("salted 2;mesh 2 1;");
        Check.due("each day one of both", 300, x.days(5, 300, 0) + x.days(5, 300, 1));
        Check.due("none never", 0, x.days(5, 300, NONE));
    }

    @Says(promise = 38, value = {"NoSuchElementException: also no such NET.", "IllegalArgumentException (behind that): how many."})
    static void p38TheNetAheadOfHowMany() {
        MeshWaters x = full();
        Check.changesNothing("NET 3", NO_SUCH, x, () -> x.days(5, 9, 3));
        Check.changesNothing("NET -2", NO_SUCH, x, () -> x.days(5, 9, -2));
        Check.changesNothing("-1", ILLEGAL, x, () -> x.days(5, -1, 0));
        Check.changesNothing("301", ILLEGAL, x, () -> x.days(5, 301, NONE));
        Check.noSuch("neither", () -> x.days(5, -1, 3));
        Check.noSuch("neither", () -> x.days(5, 301, -2));
        Check.noSuch("NET 0 of none", () -> new MeshWaters().days(5, 9, 0));
    }

    @Says(promise = 39, value = "AN IMAGE is kept, in place of another one.")
    static void p39InPlaceOfAnother() {
        MeshWaters x = Check.of(NETS);
        x.waters(3, 4);
        x.image();
        x.waters(5, 6);
        x.image();
        x.waters(7, 8);
        x.restore();
        Check.due("the latter", 5, x.count(0));
        Check.changesNothing("keeping it", null, x, () -> {
            x.image();
            return 0;
        });
    }

    @Says(promise = 40, value = {"It is as the IMAGE again: true.", "False: there is none."})
    static void p40AsTheImageAgain() {
        MeshWaters x = Check.of(NETS);
        x.waters(3, 4);
        Check.changesNothing("no IMAGE", null, x, () -> x.restore() ? 1 : 0);
        Check.due("no IMAGE", false, x.restore());
        x.image();
        x.waters(5, 6);
        Check.due("restore", true, x.restore());
        Check.due("LOW", 3, x.count(0));
        Check.due("ACTS", 1, x.count(7));
        x.waters(5, 6);
        Check.due("the IMAGE stays", true, x.restore());
        Check.due("LOW", 3, x.count(0));
        x.undo();
        x.restore();
        Check.due("what was undone is there again", 3, x.count(0));
        Check.sea(x, "?");
        Check.due("behind a FAULT", true, x.restore());
        Check.sea(x, NETS);
        Check.due("behind a SEA", false, x.restore());
        Check.due("LOW", 1, x.count(0));
    }

    @Says("The constants: `NONE = -1`: There is none.")
    static void theConstant() {
        Check.due("NONE", -1, NONE);
        Check.due("an answer of NONE", -1, new MeshWaters().undo());
    }

    @Says("An object is used for at most 512 calls after it has been made;")
    static void theLastCallOfAll() {
        MeshWaters x = Check.of("places 60;pond 0;spawns before;");
        // Three calls have told it its text: two feed() and sea().
        for (int call = 4; call < 512; call++) {
            Check.due("one PLACE", 1, x.years(200));
        }
        Check.due("YEARS", 200 * 508, x.count(6));
    }
}
