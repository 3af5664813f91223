/** Texts with each FAULT: which one, and where. */
final class FaultTests {
    private FaultTests() {
    }

    static void blanksAndTokens() {
        Check.right("");
        Check.right(" \n ");
        Check.right("mesh7 3;");
        Check.right("mesh\n7\n3\n;\n");
        Check.right("mesh 7 3;week 0;");
        Check.right("mesh 0007 0003;");
        Check.fault(1, 0, "x");
        Check.fault(1, 0, ";");
        Check.fault(1, 0, "7");
        Check.fault(1, 0, "12345");
        Check.fault(1, 2, " \n#");
        Check.fault(1, 4, "mesh\t7 3;");
        Check.fault(1, 4, "mesh\r7 3;");
        Check.fault(1, 0, "Mesh 7 3;");
        Check.fault(1, 4, "meshX7 3;");
        Check.fault(1, 0, "meshes 7 3;");
        Check.fault(1, 0, "mes 7 3;");
        Check.fault(1, 9, "mesh 7 3;" + (char) 255);
        Check.fault(1, 0, "" + (char) 0);
        Check.fault(1, 0, "from 3 to 4;");
        Check.fault(1, 9, "mesh 7 3;;");
    }

    static void textsThatEndTooSoon() {
        Check.fault(1, 4, "mesh");
        Check.fault(1, 6, "mesh 7");
        Check.fault(1, 8, "mesh 7 3");
        Check.fault(1, 11, "mesh 7 3 \n ");
        Check.fault(1, 15, "salted 6 from 9");
        Check.fault(1, 20, "salted 6 from 9 to  ");
        Check.fault(1, 4, "pond");
        Check.fault(1, 6, "spawns");
        Check.fault(1, 9, "spawns in");
        Check.fault(1, 9, "spawns 1+");
        Check.fault(1, 8, "spawns (");
    }

    static void netsNotAsTold() {
        Check.right("mesh 2 0;mesh 2 1;mesh 999 998;");
        Check.fault(2, 5, "mesh 1 0;");
        Check.fault(2, 5, "mesh 0 0;");
        Check.fault(2, 5, "mesh 1000 0;");
        Check.fault(2, 7, "mesh 7 7;");
        Check.fault(2, 9, "mesh 999 999;");
        Check.fault(2, 5, "mesh 00007 3;");
        Check.fault(2, 5, "mesh 12345 x");
        Check.fault(2, 7, "mesh 7 00003;");
        Check.fault(1, 6, "mesh 7;");
        Check.fault(1, 5, "mesh x;");
        Check.fault(1, 9, "mesh 7 3 4;");
        Check.fault(1, 9, "mesh 7 3 12345;");
        Check.fault(1, 9, "mesh 7 3 to 4;");
        Check.right("twos 0;twos 20;");
        Check.fault(2, 5, "twos 21;");
        Check.fault(1, 7, "twos 2 3;");
        Check.right("ending 1 0;ending 1 9;ending 2 007;ending 4 9999;ending 4 0000;");
        Check.fault(2, 7, "ending 0 0;");
        Check.fault(2, 7, "ending 5 0;");
        Check.fault(2, 9, "ending 1 10;");
        Check.fault(2, 9, "ending 3 1000;");
        Check.fault(2, 9, "ending 4 00000;");
        Check.fault(1, 8, "ending 2;");
        Check.right("week 0;week 6;");
        Check.fault(2, 5, "week 7;");
        Check.right("salted 2;salted 999;");
        Check.fault(2, 7, "salted 1;");
        Check.fault(2, 7, "salted 1000;");
    }

    static void endsNotAsTold() {
        Check.right("salted 6 from 10 to 10;mesh 7 3 from 9999 to 9999;twos 3from1to9999;");
        Check.fault(2, 14, "salted 6 from 0 to 9;");
        Check.fault(2, 14, "salted 6 from 10000 to 1;");
        Check.fault(2, 20, "salted 6 from 10 to 9;");
        Check.fault(2, 20, "salted 6 from 10 to 00011;");
        Check.fault(1, 9, "salted 6 to 9;");
        Check.fault(1, 15, "salted 6 from 9;");
        Check.fault(1, 16, "salted 6 from 9 from 10;");
        Check.fault(1, 14, "salted 6 from to 9;");
        Check.fault(1, 21, "salted 6 from 9 to 10x");
        Check.fault(1, 22, "salted 6 from 9 to 10 from 9 to 10;");
    }

    static void theNinthNet() {
        String eight = "week 1;week 1;week 1;week 1;week 1;week 1;week 1;week 1;";
        Check.right(eight + "places 5;pond 1;spawns in;");
        Check.fault(2, 56, eight + "week 1;");
        Check.fault(2, 57, eight + " mesh 1 1;");
        Check.fault(2, 66, eight + "places 5; ending");
        Check.fault(1, 56, eight + "weeks 1;");
    }

    static void placesAndPonds() {
        Check.right("places 2;pond 0 1;");
        Check.right("places 60;pond 59;");
        Check.right("pond 29;pond 28;");
        Check.right("pond 0 1 2;");
        Check.fault(2, 7, "places 1;");
        Check.fault(2, 7, "places 61;");
        Check.fault(2, 7, "places 00005;");
        Check.fault(1, 6, "places;");
        Check.fault(1, 9, "places 5 6;");
        Check.fault(5, 9, "places 5;places 6;");
        Check.fault(5, 9, "places 5;places x");
        Check.fault(6, 7, "pond 3;places 6;");
        Check.fault(5, 16, "places 5;pond 3;places 6;");
        Check.fault(6, 17, "pond 3;spawns in;places 9;");
        Check.fault(2, 5, "pond 30;");
        Check.fault(2, 14, "places 5;pond 5;");
        Check.fault(2, 16, "places 5;pond 4 5;");
        Check.fault(2, 5, "pond 00003;");
        Check.fault(2, 7, "pond 3 00003;");
        Check.fault(4, 7, "pond 3 3;");
        Check.fault(4, 14, "pond 3;pond 1 3;");
        Check.fault(4, 7, "pond 3 03;");
        Check.fault(1, 4, "pond;");
        Check.fault(1, 7, "pond 3 in;");
        Check.fault(1, 5, "pond -3;");
    }

    static void expressions() {
        Check.right("spawns place+in+before+after+sums+all+year;");
        Check.right("spawns 9999*9999/0-1<2 and 1=1 or not 0;");
        Check.right("spawns(1<2)<3;");
        Check.right("spawns 1 and not 2 or not 3<4;");
        Check.right("spawns in;places 40;");
        Check.fault(5, 10, "spawns in;spawns in;");
        Check.fault(1, 6, "spawns;");
        Check.fault(1, 7, "spawns #;");
        Check.fault(1, 7, "spawns -1;");
        Check.fault(1, 9, "spawns 1+;");
        Check.fault(1, 9, "spawns 1+/2;");
        Check.fault(2, 7, "spawns 12345;");
        Check.fault(2, 9, "spawns 1+00001;");
        Check.fault(1, 9, "spawns 1 2;");
        Check.fault(1, 9, "spawns 1 12345;");
        Check.fault(1, 10, "spawns in in;");
        Check.fault(1, 10, "spawns in foo;");
        Check.fault(1, 10, "spawns in not in;");
        Check.fault(1, 10, "spawns 1<2<3;");
        Check.fault(1, 10, "spawns 1=2=3;");
        Check.fault(1, 10, "spawns 1<2=3;");
        Check.fault(1, 9, "spawns (1;");
        Check.fault(1, 8, "spawns 1);");
        Check.fault(1, 8, "spawns ();");
        Check.fault(1, 9, "spawns (1,2);");
    }

    static void wordsThatAreNoValue() {
        Check.fault(3, 7, "spawns foo;");
        Check.fault(3, 7, "spawns or;");
        Check.fault(3, 7, "spawns and in;");
        Check.fault(3, 7, "spawns mesh;");
        Check.fault(3, 7, "spawns ins;");
        Check.fault(3, 8, "spawns (or);");
        Check.fault(3, 11, "spawns not foo;");
        Check.fault(3, 9, "spawns 1+not 2;");
        Check.fault(3, 9, "spawns 1<not 2;");
        Check.fault(3, 9, "spawns 1*foo;");
        Check.fault(3, 13, "spawns in or or in;");
        Check.fault(3, 14, "spawns in and and in;");
    }

    static void nots() {
        Check.right("spawns not not not not not not in;");
        Check.right("spawns not not not not not not(not not not not not not in);");
        Check.right("spawns not not not not not not in and not not not not not not in;");
        Check.fault(2, 31, "spawns not not not not not not not in;");
        Check.fault(2, 37, "spawns in or not not not not not not not in;");
        Check.fault(1, 30, "spawns not not not not not not;");
        Check.fault(3, 31, "spawns not not not not not not foo;");
    }

    static void expressionsWithinOthers() {
        Check.right("spawns (((((1)))));");
        Check.right("spawns (((((in)))))+(((((in)))));");
        Check.right("spawns (((((not not not not not not in)))));");
        Check.fault(2, 13, "spawns ((((((1))))));");
        Check.fault(2, 13, "spawns (((((((1");
        Check.fault(2, 13, "spawns ((((((in");
        Check.fault(2, 13, "spawns ((((((foo");
        Check.fault(2, 13, "spawns ((((((or");
        Check.fault(2, 13, "spawns ((((((not in");
        Check.fault(2, 13, "spawns ((((((12345");
        Check.fault(2, 15, "spawns ((((((  1");
        Check.fault(1, 13, "spawns ((((((;");
        Check.fault(1, 13, "spawns (((((()");
        Check.fault(1, 13, "spawns ((((((-");
        Check.fault(1, 13, "spawns ((((((#");
        Check.fault(1, 13, "spawns ((((((");
        Check.fault(2, 17, "spawns 1+(((((1+((1");
        Check.fault(2, 17, "spawns 1+(((((1+(1)))))));");
    }

    static void theLongestTexts() {
        StringBuilder all = new StringBuilder("pond 3;spawns in");
        while (all.length() + 3 < 500) {
            all.append("+in");
        }
        while (all.length() < 499) {
            all.append(' ');
        }
        Check.right(all + ";");
        Check.fault(1, 500, all + " ");
        MeshWaters x = Check.of(all + ";");
        Check.due("years of the longest rule", 1, x.years(200));
        StringBuilder deep = new StringBuilder("spawns ");
        for (int level = 0; level < 5; level++) {
            deep.append("0 or 1 and 2=1+1*(");
        }
        // As many values wait as can: each of the six EXPR keeps one for or, and, test, sum and product.
        deep.append("0 or 1 and 1=0+1*1))))) and place=4;");
        MeshWaters y = Check.of(deep.toString());
        Check.due("years of the deepest rule", 1, y.years(1));
        Check.due("pond of the deepest rule", true, y.pond(4));
    }
}
