import java.util.Random;

/** Runs of calls by chance (always the same ones), each answer held against PlainWaters. */
final class RandomTests {
    private RandomTests() {
    }

    static void textsAreReadAlike() {
        for (int seed = 0; seed < 4000; seed++) {
            TextMaker maker = new TextMaker(seed);
            String text = seed % 3 == 0 ? maker.jumble() : maker.text();
            MeshWaters x = new MeshWaters();
            PlainWaters plain = new PlainWaters();
            feedBoth(x, plain, text);
            Check.due("FAULT of " + text, plain.sea(text.length()), x.sea(text.length()));
            Check.due("place of the FAULT of " + text, plain.fault(), x.fault());
            for (int what = 0; what < 15; what++) {
                Check.due("count " + what + " of " + text, plain.count(what), x.count(what));
            }
            for (int net = 0; net < plain.count(2); net++) {
                for (int what = 0; what < 5; what++) {
                    Check.due("net " + net + " " + what + " of " + text, plain.net(net, what), x.net(net, what));
                }
            }
            for (int place = 0; place < plain.count(4); place++) {
                Check.due("pond " + place + " of " + text, plain.pond(place), x.pond(place));
            }
        }
    }

    private static void feedBoth(MeshWaters x, PlainWaters plain, String text) {
        for (int at = 0; at < text.length(); at += 20) {
            int[] n = new int[5];
            for (int i = 0; i < 20; i++) {
                n[i / 4] = n[i / 4] << 8 | (at + i < text.length() ? text.charAt(at + i) & 255 : ' ');
            }
            Check.due("feed", plain.feed(n), x.feed(n[0], n[1], n[2], n[3], n[4]));
        }
    }

    static void pondsGoOnAlike() {
        for (int seed = 0; seed < 300; seed++) {
            TextMaker maker = new TextMaker(7000 + seed);
            Random chance = new Random(seed);
            MeshWaters x = new MeshWaters();
            PlainWaters plain = new PlainWaters();
            String text = maker.text();
            feedBoth(x, plain, text);
            Check.due("FAULT", plain.sea(text.length()), x.sea(text.length()));
            for (int k = 0; k < 4; k++) {
                int many = 1 + chance.nextInt(5);
                for (int what = 0; what < 2; what++) {
                    Check.due("round " + what + " of " + text, plain.round(what), x.round(what));
                }
                Check.due("ends of " + text, plain.ends(), x.ends());
                Check.due("years of " + text, plain.years(many), x.years(many));
                for (int place = 0; place < plain.count(4); place++) {
                    Check.due("pond " + place + " of " + text, plain.pond(place), x.pond(place));
                }
            }
        }
    }

    static void runsAnswerAlike() {
        for (int seed = 0; seed < 120; seed++) {
            Run run = new Run(seed);
            for (int call = 0; call < 400; call++) {
                run.step();
            }
        }
    }

    /** One object and its plain likeness. */
    private static final class Run {
        private final MeshWaters x = new MeshWaters();
        private final PlainWaters plain = new PlainWaters();
        private final Random chance;
        private final TextMaker maker;
        private final StringBuilder told = new StringBuilder();

        Run(int seed) {
            chance = new Random(seed);
            maker = new TextMaker(seed);
            told.append("run ").append(seed).append(": ");
        }

        private int up(int n) {
            return chance.nextInt(n);
        }

        private void same(String what, Check.Call plainCall, Check.Call call) {
            String want = Check.told(plainCall);
            String got = Check.told(call);
            told.append(what).append('=').append(want).append(' ');
            if (!want.equals(got)) {
                throw new AssertionError(told.substring(Math.max(0, told.length() - 2000)) + "but answered " + got);
            }
        }

        private int set() {
            int sets = 1 << (int) plain.count(2);
            return up(15) == 0 ? up(300) - 20 : up(sets);
        }

        private int net() {
            int nets = (int) plain.count(2);
            return up(12) == 0 || nets == 0 ? up(11) - 1 : up(nets);
        }

        /** A number, most often near to the waters. */
        private long number() {
            switch (up(10)) {
                case 0: return up(5) - 2;
                case 1: return 1_000_000_000_000L + up(3) - 1;
                case 2: return chance.nextLong();
                case 3: return 1 + (long) (chance.nextDouble() * 1e12);
                case 4: return 1 + up(60);
                default: return plain.count(0) + up((int) (plain.count(1) - plain.count(0)) + 20) - 10;
            }
        }

        void step() {
            int what = up(40);
            if (what < 2) {
                newText();
            } else if (what < 12) {
                change(what);
            } else if (what < 26) {
                askOfNets(what);
            } else if (what < 33) {
                askOfLists(what);
            } else {
                askOfPond(what);
            }
        }

        private void newText() {
            String text = maker.text();
            told.append('"').append(text).append("\" ");
            feedBoth(x, plain, text);
            int n = up(12) == 0 ? up(520) - 10 : text.length();
            same("sea " + n, () -> plain.sea(n), () -> x.sea(n));
            same("fault", plain::fault, x::fault);
        }

        private void change(int what) {
            long low = number();
            long high = up(8) == 0 ? number() : low + up(up(3) == 0 ? 900 : 150);
            boolean bold = chance.nextBoolean();
            int net = net();
            int many = up(6) == 0 ? up(210) - 5 : 1 + up(4);
            if (what < 4 && high - low < 1500) {
                same("waters " + low + " " + high, () -> plain.waters(low, high) ? 1 : 0, () -> x.waters(low, high) ? 1 : 0);
            } else if (what < 6) {
                same("lower " + net + " " + bold, () -> plain.lower(net, bold) ? 1 : 0, () -> x.lower(net, bold) ? 1 : 0);
            } else if (what < 8) {
                same("years " + many, () -> plain.years(many), () -> x.years(many));
            } else if (what < 10) {
                same("undo", plain::undo, x::undo);
            } else if (what == 10 && up(2) == 0) {
                plain.image();
                x.image();
                told.append("image ");
            } else if (what == 11 && up(2) == 0) {
                same("restore", () -> plain.restore() ? 1 : 0, () -> x.restore() ? 1 : 0);
            }
            for (int i = 0; i < 15; i++) {
                int k = i;
                same("count " + k, () -> plain.count(k), () -> x.count(k));
            }
        }

        private void askOfNets(int what) {
            int set = set();
            long number = number();
            int k = up(11) - 1;
            switch (what) {
                case 12: same("all " + set, () -> plain.all(set), () -> x.all(set)); break;
                case 13: same("some " + set, () -> plain.some(set), () -> x.some(set)); break;
                case 14: case 15: same("just " + set + " " + k, () -> plain.just(set, k), () -> x.just(set, k)); break;
                case 16: same("haul", plain::haul, x::haul); break;
                case 17: case 18: same("next " + set + " " + number, () -> plain.next(set, number), () -> x.next(set, number)); break;
                case 19: case 20: {
                    long i = up(3) == 0 ? up(900) : up(20) - 1;
                    same("place " + set + " " + i, () -> plain.place(set, i), () -> x.place(set, i));
                    break;
                }
                case 21: same("most " + k, () -> plain.most(k), () -> x.most(k)); break;
                case 22: same("nets " + number, () -> plain.nets(number), () -> x.nets(number)); break;
                case 23: {
                    int which = up(4) - 1;
                    same("fleets " + which, () -> plain.fleets(which), () -> x.fleets(which));
                    break;
                }
                case 24: {
                    int seed = chance.nextInt();
                    int days = up(320) - 10;
                    int net = up(3) == 0 ? -1 : net();
                    same("days " + seed + " " + days + " " + net, () -> plain.days(seed, days, net), () -> x.days(seed, days, net));
                    break;
                }
                default: {
                    int i = up(11) - 1;
                    same("split " + k + " " + i, () -> plain.split(k, i), () -> x.split(k, i));
                    break;
                }
            }
        }

        private void askOfLists(int what) {
            long number = up(2) == 0 ? 1 + up(30) : number();
            boolean bold = up(3) > 0;
            int most = up(6) == 0 ? up(1010) - 5 : 2 + up(30);
            int which = up(5) - 1;
            switch (what) {
                case 26: case 27:
                    same("wish " + number + " " + bold, () -> plain.wish(number, bold), () -> x.wish(number, bold));
                    break;
                case 28: same("see " + number, () -> plain.see(number), () -> x.see(number)); break;
                case 29: same("fewest", plain::fewest, x::fewest); break;
                case 30: same("mesh " + most, () -> plain.mesh(most), () -> x.mesh(most)); break;
                case 31: same("fits " + which, () -> plain.fits(which), () -> x.fits(which)); break;
                default:
                    if (up(4) == 0) {
                        plain.forget();
                        x.forget();
                        told.append("forget ");
                    }
                    break;
            }
        }

        private void askOfPond(int what) {
            int which = up(4) - 1;
            int n = up(5) == 0 ? up(64) - 1 : 1 + up(12);
            int place = up(64) - 2;
            int net = net();
            int told = up(7) - 1;
            switch (what) {
                case 33: case 34: case 35:
                    same("find " + n + " " + which, () -> plain.find(n, which), () -> x.find(n, which));
                    break;
                case 36: case 37:
                    same("pond " + place, () -> plain.pond(place) ? 1 : 0, () -> x.pond(place) ? 1 : 0);
                    break;
                case 38:
                    if (up(6) == 0) {
                        same("round " + which, () -> plain.round(which), () -> x.round(which));
                        same("ends", plain::ends, x::ends);
                    }
                    break;
                default:
                    same("net " + net + " " + told, () -> plain.net(net, told), () -> x.net(net, told));
                    break;
            }
        }
    }

    static void numbersAnswerAlike() {
        Random chance = new Random(5);
        for (int i = 0; i < 3000; i++) {
            int number = chance.nextInt(3000) - 5;
            int what = chance.nextInt(7) - 1;
            int k = chance.nextInt(5) - 2;
            boolean often = chance.nextBoolean();
            same("divided " + number + " " + what, () -> PlainWaters.divided(number, what), () -> new MeshWaters().divided(number, what));
            same("parts " + number + " " + k, () -> PlainWaters.parts(number, k, often), () -> new MeshWaters().parts(number, k, often));
        }
        for (int i = 0; i < 400; i++) {
            int big = 999_999_000 + chance.nextInt(1010);
            int any = 1 + chance.nextInt(1_000_000_000);
            int number = i % 2 == 0 ? any : big;
            int k = chance.nextInt(6) - 1;
            boolean often = chance.nextBoolean();
            same("parts " + number + " " + k, () -> PlainWaters.parts(number, k, often), () -> new MeshWaters().parts(number, k, often));
            same("prime " + number, () -> PlainWaters.prime(number), () -> new MeshWaters().prime(number));
            int b = number + chance.nextInt(2010) - 5;
            same("primes " + number + " " + b, () -> PlainWaters.primes(number, b), () -> new MeshWaters().primes(number, b));
            int a = chance.nextInt(3000) - 3;
            int c = a + chance.nextInt(2010) - 5;
            same("primes " + a + " " + c, () -> PlainWaters.primes(a, c), () -> new MeshWaters().primes(a, c));
            same("prime " + a, () -> PlainWaters.prime(a), () -> new MeshWaters().prime(a));
        }
    }

    static void shoalsAndLicencesAnswerAlike() {
        Random chance = new Random(6);
        for (int i = 0; i < 300; i++) {
            int n = i % 20 == 0 ? 100005 - chance.nextInt(20) : chance.nextInt(3000);
            int prime = chance.nextInt(i % 2 == 0 ? 40 : 4000) - 3;
            same("shoal " + prime + " " + n, () -> PlainWaters.shoal(prime, n), () -> new MeshWaters().shoal(prime, n));
            long up = chance.nextInt(20000) - 20;
            int m = chance.nextInt(53) - 1;
            int rest = m > 1 ? chance.nextInt(m + 2) - 1 : chance.nextInt(3) - 1;
            same("sums " + up + " " + m + " " + rest, () -> PlainWaters.sums(up, m, rest), () -> new MeshWaters().sums(up, m, rest));
            int figure = chance.nextInt(12) - 1;
            boolean anywhere = chance.nextBoolean();
            same("figures " + up + " " + figure + " " + anywhere,
                () -> PlainWaters.figures(up, figure, anywhere), () -> new MeshWaters().figures(up, figure, anywhere));
        }
    }

    private static void same(String what, Check.Call plain, Check.Call call) {
        String want = Check.told(plain);
        String got = Check.told(call);
        if (!want.equals(got)) {
            throw new AssertionError(what + " answered " + got + ", due is " + want);
        }
    }
}
