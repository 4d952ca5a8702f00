/** The values, sentence by sentence: what an E gives, and what a task's run makes of its statements. */
public final class ValueTest {
    private static final int LEAST = Integer.MIN_VALUE;
    private static final int MOST = Integer.MAX_VALUE;

    public static void main(String[] args) {
        sumsWrap();
        differencesWrap();
        productsWrap();
        negativesWrap();
        quotientsWrap();
        by0();
        quotientsAndRests();
        fromTheLeft();
        comparisons();
        deepExpressions();
        readsWhenTheSpanBegins();
        localsBeginWith0();
        doesNotReadWhatItAssigns();
        assignedLast();
        nothingAssigned();
        ifsGoByZero();
        repeats();
        Due.close();
    }

    private static void value(String e, int a, int b, int due) {
        LogicalTimes x = Due.run("port p=77;sensor a;sensor b;mode M 1{task t 1 on 0{p=" + e + ";}}");
        x.sensor(0, a);
        x.sensor(1, b);
        x.tick(2);
        Due.same(e + " by " + a + ", " + b + " denoted", x.denoted(0), due);
        Due.same(e + " by " + a + ", " + b + " seen", x.port(0, 0), due);
    }

    private static void sumsWrap() {
        Due.sentence("VALUES are ints, and wrap (+)");
        value("a+b", MOST, 0, MOST);
        value("a+b", MOST - 1, 1, MOST);
        value("a+b", MOST, 1, LEAST);
        value("a+b", MOST, MOST, -2);
        value("a+b", LEAST, -1, MOST);
        value("a+b", LEAST, LEAST, 0);
        value("a+b-b", MOST, MOST, MOST);
    }

    private static void differencesWrap() {
        Due.sentence("VALUES are ints, and wrap (-)");
        value("a-b", LEAST, 0, LEAST);
        value("a-b", LEAST + 1, 1, LEAST);
        value("a-b", LEAST, 1, MOST);
        value("a-b", 0, LEAST, LEAST);
        value("a-b", MOST, -1, LEAST);
    }

    private static void productsWrap() {
        Due.sentence("VALUES are ints, and wrap (*)");
        value("a*b", 65536, 32767, 65536 * 32767);
        value("a*b", 65536, 32768, LEAST);
        value("a*b", 65536, 65536, 0);
        value("a*b", LEAST, -1, LEAST);
        value("a*b", MOST, MOST, 1);
        value("999999*999999", 0, 0, (int) (999999L * 999999L));
    }

    private static void negativesWrap() {
        Due.sentence("VALUES are ints, and wrap (- with one of these behind it)");
        value("-a", MOST, 0, -MOST);
        value("-a", LEAST + 1, 0, MOST);
        value("-a", LEAST, 0, LEAST);
        value("-0", 0, 0, 0);
        value("--a", 5, 0, 5);
        value("---a", 5, 0, -5);
        value("2--3", 0, 0, 5);
        value("-a*b", 2, 3, -6);
        value("a*-b", 2, 3, -6);
        value("-a%b", 7, 4, -3);
        value("-(a+b)", 2, 3, -5);
    }

    private static void quotientsWrap() {
        Due.sentence("VALUES are ints, and wrap (/ and %)");
        value("a/b", LEAST, -1, LEAST);
        value("a%b", LEAST, -1, 0);
        value("a/b", LEAST + 1, -1, MOST);
        value("a/b", LEAST, 1, LEAST);
        value("a/b", LEAST, LEAST, 1);
        value("a%b", MOST, LEAST, MOST);
    }

    private static void by0() {
        Due.sentence("/ and % by 0 give 0");
        for (int a : new int[] {0, 1, -1, 5, MOST, LEAST}) {
            value("a/b", a, 0, 0);
            value("a%b", a, 0, 0);
            value("a/b", a, 1, a);
            value("a%b", a, 1, 0);
            value("a%b", a, -1, 0);
        }
        value("1+a/0*2", 9, 0, 1);
        value("a/(b-b)", 9, 4, 0);
        value("0/a", 0, 0, 0);
    }

    private static void quotientsAndRests() {
        Due.sentence("quotients and rests: towards 0, as ints have them");
        value("a/b", 7, 2, 3);
        value("a/b", -7, 2, -3);
        value("a/b", 7, -2, -3);
        value("a/b", -7, -2, 3);
        value("a%b", 7, 2, 1);
        value("a%b", -7, 2, -1);
        value("a%b", 7, -2, 1);
        value("a%b", -7, -2, -1);
    }

    private static void fromTheLeft() {
        Due.sentence("sums and differences of products, quotients and rests .. from the left");
        value("2+3*4", 0, 0, 14);
        value("2*3+4", 0, 0, 10);
        value("(2+3)*4", 0, 0, 20);
        value("10-3-2", 0, 0, 5);
        value("10-3+2", 0, 0, 9);
        value("10-(3-2)", 0, 0, 9);
        value("100/10/5", 0, 0, 2);
        value("100/10*5", 0, 0, 50);
        value("7%4*2", 0, 0, 6);
        value("2*7%4", 0, 0, 2);
        value("20-7%4*2/3", 0, 0, 18);
        value("1+2*3/4%5-6", 0, 0, -4);
    }

    private static void comparisons() {
        Due.sentence("two sums with < or > between (1 or 0)");
        value("a<b", 1, 2, 1);
        value("a<b", 2, 2, 0);
        value("a<b", 3, 2, 0);
        value("a>b", 3, 2, 1);
        value("a>b", 2, 2, 0);
        value("a>b", 1, 2, 0);
        value("a<b", LEAST, MOST, 1);
        value("a>b", LEAST, MOST, 0);
        value("a<b", MOST, LEAST, 0);
        value("a+1<b*2", 2, 2, 1);
        value("a+2<b*2", 2, 2, 0);
        value("-(a<b)", 1, 2, -1);
        value("(a>b)+(b>a)*10", 1, 2, 10);
        value("(a<b)<1", 2, 1, 1);
        value("a<(b<1)", 0, 0, 1);
    }

    private static void deepExpressions() {
        Due.sentence("( E ), as deep as they may be");
        value("1+1*(".repeat(8) + "a" + ")".repeat(8), 1, 0, 9);
        value("1<1+1*(".repeat(7) + "a" + ")".repeat(7), 1, 0, 1);
        value("(".repeat(8) + "a-1" + ")".repeat(8), 1, 0, 0);
        value("-".repeat(8) + "a", 3, 0, 3);
        value("-(".repeat(4) + "a" + ")".repeat(4), 3, 0, 3);
        value("-" + "1+".repeat(29) + "1", 0, 0, 28);
        value("a-(".repeat(8) + "a*2" + ")".repeat(8) + "+b", 5, 1, 11);
    }

    private static void readsWhenTheSpanBegins() {
        Due.sentence("A task's run reads ports and sensors as they are when its span begins");
        LogicalTimes x = Due.run("port p=1;sensor s;mode M 6{task t 1 on 0{if s{}p=s+p;}}");
        x.sensor(0, 10);
        x.tick(1);
        x.sensor(0, 20);
        x.tick(6);
        Due.same("the sensor as it was at first", x.denoted(0), 11);
        x.tick(6);
        Due.same("then as it was at the second span", x.denoted(0), 31);
        // Two tasks that swap: each reads what was there ahead of both.
        LogicalTimes y = Due.run("port p=1;port q=2;mode M 3{task t 1 on 0{p=q;}task u 1 on 0{q=p;}}");
        y.tick(4);
        Due.same("p", y.denoted(0), 2);
        Due.same("q", y.denoted(1), 1);
        // u's span begins at 0, so what t gives at 1, 2 and 3 is too late for it, though u runs later.
        LogicalTimes z = Due.run("port p=1;port q=0;mode M 4{task t 4 on 0{p=p+1;}task u 1 on 1{q=p;}slots 0,1,2,3;}");
        z.tick(5);
        Due.same("p of tick 4", z.denoted(0), 5);
        Due.same("p of tick 0", z.denoted(1), 1);
    }

    private static void localsBeginWith0() {
        Due.sentence("locals begin with 0");
        LogicalTimes x = Due.run("port p=7;sensor s;mode M 4{task t 1 on 0{if s{x=3;}p=x;}}");
        x.tick(5);
        Due.same("never assigned", x.denoted(0), 0);
        x.sensor(0, 1);
        x.tick(4);
        x.sensor(0, 0);
        x.tick(4);
        Due.same("assigned in one run", x.denoted(0), 3);
        x.tick(4);
        Due.same("not in the next", x.denoted(0), 0);
        // Another task's locals are others.
        LogicalTimes y = Due.run("port p=7;port q=7;mode M 4{task t 1 on 0{x=5;p=x;}task u 1 on 0{if 0{x=1;}q=x;}}");
        y.tick(5);
        Due.same("t's", y.denoted(0), 5);
        Due.same("u's", y.denoted(1), 0);
        // All six.
        LogicalTimes z = Due.run("port p=7;sensor s;mode M 9{task t 1 on 0{if s{"
            + Texts.row(6, i -> "x" + i + "=" + (i + 1) + ";") + "}p=x0+x1*10+x2*100+x3*1000+x4*10000+x5*100000;}}");
        z.sensor(0, 1);
        z.tick(1);
        z.sensor(0, 0);
        z.tick(9);
        Due.same("six locals", z.denoted(0), 654321);
        z.tick(9);
        Due.same("six zeros", z.denoted(0), 0);
    }

    private static void result(String statements, int s, int due) {
        LogicalTimes x = Due.run("port p=7;sensor s;mode M 50{task t 1 on 0{" + statements + "}}");
        x.sensor(0, s);
        x.tick(50);
        Due.same(statements + " by " + s + " ahead of the end", x.denoted(0), 7);
        x.tick(1);
        Due.same(statements + " by " + s, x.denoted(0), due);
    }

    private static void doesNotReadWhatItAssigns() {
        Due.sentence("what it assigns to a port it doesn't read itself");
        result("p=1;x=p;p=x;", 0, 7);
        result("p=p+1;p=p+1;", 0, 8);
        result("p=1;if p>1{p=2;}", 0, 2);
        result("repeat 4{p=p+1;}", 0, 8);
    }

    private static void assignedLast() {
        Due.sentence("each port that it assigns somewhere becomes what was assigned last");
        result("p=1;", 0, 1);
        result("p=1;p=2;", 0, 2);
        result("p=1;if s{p=2;}", 0, 1);
        result("p=1;if s{p=2;}", 1, 2);
        result("if s{p=1;}else{p=2;}p=p+1;", 1, 8);
        result("x=0;repeat 9{x=x+1;p=x;}", 0, 9);
        String twelve = Texts.row(12, p -> "port p" + p + "=0;");
        LogicalTimes x = Due.run(twelve + "mode M 20{task t 1 on 0{" + Texts.row(12, p -> "p" + p + "=" + (p + 100) + ";") + "}}");
        x.tick(21);
        for (int p = 0; p < 12; p++) {
            Due.same("port " + p + " of twelve", x.denoted(p), p + 100);
            Due.same("port " + p + " of twelve, seen", x.port(0, p), p + 100);
        }
    }

    private static void nothingAssigned() {
        Due.sentence("or, if nothing was, what it was when the span began");
        result("if s{p=1;}", 0, 7);
        result("", 0, 7);
        result("repeat 9{}", 0, 7);
        result("if s{}else{if s{p=1;}}", 0, 7);
        // A message carries what the task's node saw when the span began.
        LogicalTimes z = Due.run("port p=1;sensor s;mode A 2{task a 1 on 0{p=2;}switch 1 if 1 to B;}"
            + "mode B 4{task b 1 on 1{if s{p=9;}}slots 2;}");
        z.tick(3);
        Due.same("node 0 sees a's", z.port(0, 0), 2);
        Due.same("node 1 doesn't", z.port(1, 0), 1);
        z.tick(4);
        Due.same("b's message makes it what node 1 saw", z.port(0, 0), 1);
        Due.same("it stays denoted", z.denoted(0), 2);
    }

    private static void ifsGoByZero() {
        Due.sentence("if E { STATEMENTS } else { STATEMENTS }: the first unless E is 0");
        for (int s : new int[] {1, -1, 2, MOST, LEAST}) {
            result("if s{p=1;}else{p=2;}", s, 1);
            result("if s{p=1;}", s, 1);
        }
        result("if s{p=1;}else{p=2;}", 0, 2);
        result("if s{}else{p=2;}", 0, 2);
        result("if s{if s>1{p=1;}else{p=2;}}else{if s{p=3;}else{p=4;}}", 2, 1);
        result("if s{if s>1{p=1;}else{p=2;}}else{if s{p=3;}else{p=4;}}", 1, 2);
        result("if s{if s>1{p=1;}else{p=2;}}else{if s{p=3;}else{p=4;}}", 0, 4);
    }

    private static void repeats() {
        Due.sentence("repeat NUMBER { STATEMENTS } (1 to 9 times)");
        for (int times = 1; times <= 9; times++) {
            result("x=0;repeat " + times + "{x=x+1;p=x;}", 0, times);
        }
        result("x=0;repeat 4{x=x*10+1;}p=x;", 0, 1111);
        result("x=0;repeat 2{repeat 2{repeat 2{repeat 1{repeat 1{x=x+1;}}}}}p=x;", 0, 8);
        result("x=0;repeat 3{x=x+1;repeat 2{x=x*2;}if x>5{x=x-1;}}p=x;", 0, 79);
        result("x=0;repeat 3{repeat 2{if s{x=x+1;}else{x=x+10;}}}p=x;", 1, 6);
        result("x=0;repeat 3{repeat 2{if s{x=x+1;}else{x=x+10;}}}p=x;", 0, 60);
        result("x=0;repeat 3{if x<2{repeat 2{x=x+1;}}else{repeat 3{x=x+1;}}}p=x;", 0, 8);
    }
}
