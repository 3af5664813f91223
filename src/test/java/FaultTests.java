/** Texts with each FAULT: which one, and where. */
final class FaultTests {
    private FaultTests() {
    }

    private static void due(int kind, int at, String text) {
        MeshWaters x = new MeshWaters();
        Check.due("FAULT of " + text, kind, Check.sea(x, text));
        Check.due("place of the FAULT of " + text, at, x.fault());
        Check.due("STATUS behind " + text, kind == 0 ? 0 : 1, x.count(12));
    }

    private static void right(String text) {
        due(0, MeshWaters.NONE, text);
    }

    static void blanksAndTokens() {
        right("");
        right(" \n ");
        right("mesh7 3;");
        right("mesh\n7\n3\n;\n");
        right("mesh 7 3;week 0;");
        right("mesh 0007 0003;");
        due(1, 0, "x");
        due(1, 0, ";");
        due(1, 0, "7");
        due(1, 0, "12345");
        due(1, 2, " \n#");
        due(1, 4, "mesh\t7 3;");
        due(1, 4, "mesh\r7 3;");
        due(1, 0, "Mesh 7 3;");
        due(1, 4, "meshX7 3;");
        due(1, 0, "meshes 7 3;");
        due(1, 0, "mes 7 3;");
        due(1, 9, "mesh 7 3;" + (char) 255);
        due(1, 0, "" + (char) 0);
        due(1, 0, "from 3 to 4;");
        due(1, 9, "mesh 7 3;;");
    }

    static void textsThatEndTooSoon() {
        due(1, 4, "mesh");
        due(1, 6, "mesh 7");
        due(1, 8, "mesh 7 3");
        due(1, 11, "mesh 7 3 \n ");
        due(1, 15, "salted 6 from 9");
        due(1, 20, "salted 6 from 9 to  ");
        due(1, 4, "pond");
        due(1, 6, "spawns");
        due(1, 9, "spawns in");
        due(1, 9, "spawns 1+");
        due(1, 8, "spawns (");
    }

    static void netsNotAsTold() {
        right("mesh 2 0;mesh 2 1;mesh 999 998;");
        due(2, 5, "mesh 1 0;");
        due(2, 5, "mesh 0 0;");
        due(2, 5, "mesh 1000 0;");
        due(2, 7, "mesh 7 7;");
        due(2, 9, "mesh 999 999;");
        due(2, 5, "mesh 00007 3;");
        due(2, 5, "mesh 12345 x");
        due(2, 7, "mesh 7 00003;");
        due(1, 6, "mesh 7;");
        due(1, 5, "mesh x;");
        due(1, 9, "mesh 7 3 4;");
        due(1, 9, "mesh 7 3 12345;");
        due(1, 9, "mesh 7 3 to 4;");
        right("twos 0;twos 20;");
        due(2, 5, "twos 21;");
        due(1, 7, "twos 2 3;");
        right("ending 1 0;ending 1 9;ending 2 007;ending 4 9999;ending 4 0000;");
        due(2, 7, "ending 0 0;");
        due(2, 7, "ending 5 0;");
        due(2, 9, "ending 1 10;");
        due(2, 9, "ending 3 1000;");
        due(2, 9, "ending 4 00000;");
        due(1, 8, "ending 2;");
        right("week 0;week 6;");
        due(2, 5, "week 7;");
        right("salted 2;salted 999;");
        due(2, 7, "salted 1;");
        due(2, 7, "salted 1000;");
    }

    static void endsNotAsTold() {
        right("salted 6 from 10 to 10;mesh 7 3 from 9999 to 9999;twos 3from1to9999;");
        due(2, 14, "salted 6 from 0 to 9;");
        due(2, 14, "salted 6 from 10000 to 1;");
        due(2, 20, "salted 6 from 10 to 9;");
        due(2, 20, "salted 6 from 10 to 00011;");
        due(1, 9, "salted 6 to 9;");
        due(1, 15, "salted 6 from 9;");
        due(1, 16, "salted 6 from 9 from 10;");
        due(1, 14, "salted 6 from to 9;");
        due(1, 21, "salted 6 from 9 to 10x");
        due(1, 22, "salted 6 from 9 to 10 from 9 to 10;");
    }

    static void theNinthNet() {
        String eight = "week 1;week 1;week 1;week 1;week 1;week 1;week 1;week 1;";
        right(eight + "places 5;pond 1;spawns in;");
        due(2, 56, eight + "week 1;");
        due(2, 57, eight + " mesh 1 1;");
        due(2, 66, eight + "places 5; ending");
        due(1, 56, eight + "weeks 1;");
    }

    static void placesAndPonds() {
        right("places 2;pond 0 1;");
        right("places 60;pond 59;");
        right("pond 29;pond 28;");
        right("pond 0 1 2;");
        due(2, 7, "places 1;");
        due(2, 7, "places 61;");
        due(2, 7, "places 00005;");
        due(1, 6, "places;");
        due(1, 9, "places 5 6;");
        due(5, 9, "places 5;places 6;");
        due(5, 9, "places 5;places x");
        due(6, 7, "pond 3;places 6;");
        due(5, 16, "places 5;pond 3;places 6;");
        due(6, 17, "pond 3;spawns in;places 9;");
        due(2, 5, "pond 30;");
        due(2, 14, "places 5;pond 5;");
        due(2, 16, "places 5;pond 4 5;");
        due(2, 5, "pond 00003;");
        due(2, 7, "pond 3 00003;");
        due(4, 7, "pond 3 3;");
        due(4, 14, "pond 3;pond 1 3;");
        due(4, 7, "pond 3 03;");
        due(1, 4, "pond;");
        due(1, 7, "pond 3 in;");
        due(1, 5, "pond -3;");
    }

    static void expressions() {
        right("spawns place+in+before+after+sums+all+year;");
        right("spawns 9999*9999/0-1<2 and 1=1 or not 0;");
        right("spawns(1<2)<3;");
        right("spawns 1 and not 2 or not 3<4;");
        right("spawns in;places 40;");
        due(5, 10, "spawns in;spawns in;");
        due(1, 6, "spawns;");
        due(1, 7, "spawns #;");
        due(1, 7, "spawns -1;");
        due(1, 9, "spawns 1+;");
        due(1, 9, "spawns 1+/2;");
        due(2, 7, "spawns 12345;");
        due(2, 9, "spawns 1+00001;");
        due(1, 9, "spawns 1 2;");
        due(1, 9, "spawns 1 12345;");
        due(1, 10, "spawns in in;");
        due(1, 10, "spawns in foo;");
        due(1, 10, "spawns in not in;");
        due(1, 10, "spawns 1<2<3;");
        due(1, 10, "spawns 1=2=3;");
        due(1, 10, "spawns 1<2=3;");
        due(1, 9, "spawns (1;");
        due(1, 8, "spawns 1);");
        due(1, 8, "spawns ();");
        due(1, 9, "spawns (1,2);");
    }

    static void wordsThatAreNoValue() {
        due(3, 7, "spawns foo;");
        due(3, 7, "spawns or;");
        due(3, 7, "spawns and in;");
        due(3, 7, "spawns mesh;");
        due(3, 7, "spawns ins;");
        due(3, 8, "spawns (or);");
        due(3, 11, "spawns not foo;");
        due(3, 9, "spawns 1+not 2;");
        due(3, 9, "spawns 1<not 2;");
        due(3, 9, "spawns 1*foo;");
        due(3, 13, "spawns in or or in;");
        due(3, 14, "spawns in and and in;");
    }

    static void nots() {
        right("spawns not not not not not not in;");
        right("spawns not not not not not not(not not not not not not in);");
        right("spawns not not not not not not in and not not not not not not in;");
        due(2, 31, "spawns not not not not not not not in;");
        due(2, 37, "spawns in or not not not not not not not in;");
        due(1, 30, "spawns not not not not not not;");
        due(3, 31, "spawns not not not not not not foo;");
    }

    static void expressionsWithinOthers() {
        right("spawns (((((1)))));");
        right("spawns (((((in)))))+(((((in)))));");
        right("spawns (((((not not not not not not in)))));");
        due(2, 13, "spawns ((((((1))))));");
        due(2, 13, "spawns (((((((1");
        due(2, 13, "spawns ((((((in");
        due(2, 13, "spawns ((((((foo");
        due(2, 13, "spawns ((((((or");
        due(2, 13, "spawns ((((((not in");
        due(2, 13, "spawns ((((((12345");
        due(2, 15, "spawns ((((((  1");
        due(1, 13, "spawns ((((((;");
        due(1, 13, "spawns (((((()");
        due(1, 13, "spawns ((((((-");
        due(1, 13, "spawns ((((((#");
        due(1, 13, "spawns ((((((");
        due(2, 17, "spawns 1+(((((1+((1");
        due(2, 17, "spawns 1+(((((1+(1)))))));");
    }

    static void theLongestTexts() {
        StringBuilder all = new StringBuilder("pond 3;spawns in");
        while (all.length() + 3 < 500) {
            all.append("+in");
        }
        while (all.length() < 499) {
            all.append(' ');
        }
        right(all + ";");
        due(1, 500, all + " ");
        MeshWaters x = Check.of(all + ";");
        Check.due("years of the longest rule", 1, x.years(200));
        StringBuilder deep = new StringBuilder("spawns ");
        for (int level = 0; level < 5; level++) {
            deep.append("0 or 1 and 2=1+1*(");
        }
        // As many values wait as can: each of the six EXPR keeps one for or, and, test, sum and product.
        deep.append("0 or 1 and 1=0+1*1))))) and place=4;");
        MeshWaters y = Check.of(deep.toString());
        Check.due("years of the deepest rule", 1, y.years(1));
        Check.due("pond of the deepest rule", true, y.pond(4));
    }
}
