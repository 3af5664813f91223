/** The rule by which a POND SPAWNS: how an EXPR is read and reckoned, and what its VALUES are. */
final class EdgesOfRules {
    private EdgesOfRules() {
    }

    private static void holds(String expr) {
        Check.pond("places 2;spawns " + expr + ";", 1, 0, 1);
    }

    private static void fails(String expr) {
        Check.pond("places 2;spawns " + expr + ";", 1);
    }

    private static String full(int places) {
        StringBuilder all = new StringBuilder("places " + places + ";pond");
        for (int place = 0; place < places; place++) {
            all.append(' ').append(place);
        }
        return all.append(';').toString();
    }

    @Says("EXPR: AND ('or' AND)*. AND: NOT ('and' NOT)*.")
    static void andAheadOfOr() {
        holds("1 or 0 and 0");
        fails("(1 or 0) and 0");
        holds("0 and 0 or 1");
        fails("0 and (0 or 1)");
        holds("0 or 0 or 1");
        fails("0 or 0 or 0");
        holds("1 and 1 and 1");
        fails("1 and 1 and 0");
    }

    @Says("NOT: 'not' NOT | SUM [('<' | '=') SUM].")
    static void notBehindTests() {
        holds("not 0<0");
        holds("not 2=1");
        fails("not 1=1");
        fails("not not 0");
        holds("not not 5");
        holds("not 1 or 1");
        fails("not 0 and 0");
        fails("not 0+1");
        fails("not 5-4");
    }

    @Says("SUM: PRODUCT (('+' | '-') PRODUCT)*. PRODUCT: PART (('*' | '/') PART)*. PART: NUMBER | VALUE | '(' EXPR ')'.")
    static void productsAheadOfSums() {
        holds("2+3*4=14");
        holds("2*3+4=10");
        holds("20-6/3=18");
        holds("(2+3)*4=20");
        holds("2*(3+4)=14");
        holds("1+1<1+1+1");
        holds("2*2=8/2");
        holds("(1 or 0)+1=2");
    }

    @Says("From the left;")
    static void fromTheLeft() {
        holds("9-3-2=4");
        holds("9-3+2=8");
        holds("8/4/2=1");
        holds("7/2*2=6");
        holds("2*7/4=3");
        holds("9-(3-2)=8");
    }

    @Says("ints that wrap,")
    static void intsThatWrap() {
        String most = "(2147*1000*1000+483*1000+647)";
        String least = "(0-2147*1000*1000-483*1000-648)";
        holds("0<" + most);
        holds(least + "<0");
        holds(most + "+1=" + least);
        holds(least + "-1=" + most);
        holds(most + "*2=0-2");
        holds("256*256*128*256=" + least);
        holds("256*256*256*256=0");
        holds("4096*4096*127=2130*1000*1000+706*1000+432");
        holds(least + "/(0-1)=" + least);
        holds("0-" + least + "=" + least);
    }

    @Says("/ cut down to 0,")
    static void divisionCutDownToZero() {
        holds("7/2=3");
        holds("1/2=0");
        holds("(0-7)/2=0-3");
        holds("7/(0-2)=0-3");
        holds("(0-7)/(0-2)=3");
        holds("(0-1)/2=0");
        holds("8/2=4");
    }

    @Says("by 0 gives 0;")
    static void divisionByZero() {
        holds("7/0=0");
        holds("0/0=0");
        holds("(0-7)/0=0");
        fails("9999/0");
        Check.pond("places 4;spawns 6/(place-1)=0-6 or 6/(place-1)=0;", 1, 0, 1);
    }

    @Says("tests, not, and, or are 1 or 0 (what isn't 0 holds).")
    static void testsAreOneOrZero() {
        holds("(3<5)=1");
        holds("(5<5)=0");
        holds("(6<5)=0");
        holds("(5=5)=1");
        holds("(4=5)=0");
        holds("(not 0)=1");
        holds("(not 7)=0");
        holds("(not (0-1))=0");
        holds("(2 and 3)=1");
        holds("(2 and 0)=0");
        holds("(0 and 2)=0");
        holds("(2 or 3)=1");
        holds("(0 or 2)=1");
        holds("(2 or 0)=1");
        holds("(0 or 0)=0");
        holds("((0-1) and (0-2))=1");
        holds("2");
        holds("0-1");
        holds("2*1000*1000*1000+2*1000*1000*1000");
        fails("0");
        fails("1-1");
    }

    @Says("VALUES of a PLACE: 'place',")
    static void valuePlace() {
        Check.pond("places 2;spawns place;", 1, 1);
        Check.pond("places 60;spawns place=59;", 1, 59);
        Check.pond("places 60;spawns place=0;", 1, 0);
        Check.pond("places 5;spawns place=5;", 1);
        Check.pond("spawns 27<place;", 1, 28, 29);
    }

    @Says("'in' (1, if it is TAKEN, else 0),")
    static void valueIn() {
        Check.pond("places 4;pond 0 3;spawns in=1;", 1, 0, 3);
        Check.pond("places 4;pond 0 3;spawns in=0;", 1, 1, 2);
        Check.pond("places 60;pond 59 31 32;spawns in;", 1, 31, 32, 59);
    }

    @Says("'before', 'after' (likewise of the PLACE ahead, behind, round about),")
    static void valuesBeforeAndAfterRoundAbout() {
        Check.pond("places 5;pond 2;spawns before=1;", 1, 3);
        Check.pond("places 5;pond 2;spawns after=1;", 1, 1);
        Check.pond("places 5;pond 4;spawns before;", 1, 0);
        Check.pond("places 5;pond 0;spawns after;", 1, 4);
        Check.pond("places 60;pond 59;spawns before;", 1, 0);
        Check.pond("places 60;pond 0;spawns after;", 1, 59);
        Check.pond("pond 29;spawns before;", 1, 0);
        Check.pond("pond 0;spawns after;", 1, 29);
        Check.pond("places 2;pond 0;spawns before and after;", 1, 1);
        Check.pond("places 5;pond 2;spawns before=0 and after=0;", 1, 0, 2, 4);
    }

    @Says("'sums' (how many couples of two unlike PLACES that are TAKEN add up to it, MOD PLACES),")
    static void valueSums() {
        Check.pond("places 6;pond 2;spawns sums;", 1);
        Check.pond("places 6;spawns sums;", 1);
        Check.pond("places 6;pond 1 2;spawns sums;", 1, 3);
        Check.pond("places 6;pond 1 2;spawns sums=1;", 1, 3);
        Check.pond("places 6;pond 0 1 2 3;spawns sums=2;", 1, 3);
        // 5 is the last that does not wrap, 6 the first that does.
        Check.pond("places 6;pond 1 4;spawns sums;", 1, 5);
        Check.pond("places 6;pond 2 4;spawns sums;", 1, 0);
        Check.pond("places 6;pond 4 5;spawns sums;", 1, 3);
        Check.pond("places 2;pond 0 1;spawns sums;", 1, 1);
        Check.pond("places 60;pond 58 59;spawns sums;", 1, 57);
        int[] odd = new int[30];
        int[] even = new int[30];
        for (int i = 0; i < 30; i++) {
            odd[i] = 2 * i + 1;
            even[i] = 2 * i;
        }
        Check.pond(full(60) + "spawns sums=30;", 1, odd);
        Check.pond(full(60) + "spawns sums=29;", 1, even);
    }

    @Says("'all' (how many are TAKEN),")
    static void valueAll() {
        Check.pond("places 4;spawns all=0 and place=1;", 1, 1);
        Check.pond("places 4;pond 0 2 3;spawns place=all;", 1, 3);
        Check.pond(full(60) + "spawns all=60 and place=7;", 1, 7);
        Check.pond(full(60) + "spawns all<60;", 1);
        // One is ahead of the first YEAR, four are ahead of the second.
        Check.pond("places 4;pond 0;spawns all=1;", 2);
    }

    @Says("'year'.")
    static void valueYear() {
        Check.pond("places 5;spawns year=0 and place=4;", 1, 4);
        Check.pond("places 5;spawns year=1 and place=4;", 1);
        Check.pond("places 5;spawns year=1 and place=4;", 2, 4);
        Check.pond("places 5;spawns year=199;", 200, 0, 1, 2, 3, 4);
        Check.pond("places 5;spawns year=199;", 199);
    }
}
