/** Promises 1 to 7: a new object, the tape, texts and their FAULTS, what a PROGRAM has. */
public final class ProgramTest {
    private static void promise1NewObject() {
        CallOpener x = new CallOpener();
        Check.dueAll("count", x::count, 0, 0, 0, 0, 0, 0, -1);
        for (int k = 0; k < 3; k++) {
            Check.due("argument", x.argument(k, 5), 0);
        }
        Check.due("set budget", x.set(0, 0), 100);
        Check.due("set cost", x.set(1, 1), 10);
        Check.due("set recursion", x.set(2, 0), 1);
        Check.due("set rate", x.set(3, 0), 100);
    }

    private static void promise2Feed() {
        CallOpener x = new CallOpener();
        for (int i = 1; i <= 24; i++) {
            Check.due("feed", x.feed(0, 0, 0, 0, 0), 20 * i);
        }
        Check.due("feed of a full tape", x.feed(0, 0, 0, 0, 0), -1);
        Check.due("count 3", x.count(3), 480);
        CallOpener y = new CallOpener();
        // the highest byte of each int first: "fun " "a(){" "}   " and blanks
        y.feed(0x66756e20, 0x6128297b, 0x7d202020, 0x20202020, 0x0a0a0a0a);
        Check.due("program", y.program(20), 1);
        CallOpener z = new CallOpener();
        z.feed(0xff000000, 0, 0, 0, 0);
        Check.due("a byte of 255", z.program(1), -1000);
    }

    private static void promise3Program() {
        CallOpener x = new CallOpener();
        Check.due("n below 0", x.program(-1), -1);
        Check.due("n above the tape", x.program(1), -1);
        Check.feed(x, "fun a(){}fun b(){c=a();}");
        Check.due("n above the tape", x.program(41), -1);
        Check.due("the tape stays", x.count(3), 40);
        Check.due("program", x.program(24), 2);
        Check.due("the tape is empty", x.count(3), 0);
        x.counted(1);
        Check.due("entries", x.count(4), 2);
        Check.due("fault", Check.tell(x, "fun"), -1003);
        Check.due("all that was stays", x.count(0), 2);
        Check.due("the profile stays", x.count(4), 2);
        Check.due("the tape is empty by a fault, too", x.count(3), 0);
        x.argument(0, 7);
        Check.due("program again", Check.tell(x, "fun p(q){give q;}"), 1);
        Check.due("the profile is empty", x.count(4), 0);
        Check.due("arguments stay", x.run(0, 1), 7);
        Check.due("empty program", x.program(0), 0);
        Check.due("no functions", x.count(0), 0);
        dueCutTexts();
        CallOpener y = new CallOpener();
        Check.feed(y, " ".repeat(420));
        Check.due("n above 400", y.program(401), -1);
        Check.due("n of 400", y.program(400), 0);
    }

    /** Tokens end where the text does, whatever the tape has behind it. */
    private static void dueCutTexts() {
        CallOpener x = new CallOpener();
        Check.feed(x, "fun a(){x=1234;}");
        Check.due("a number cut", x.program(12), -1012);
        Check.feed(x, "fun a(){abcdefghi=1;}");
        Check.due("a word cut", x.program(14), -1014);
        Check.feed(x, "fun a(){x=a(1);}");
        Check.due("a sign cut", x.program(11), -1011);
        Check.dueFault("(".repeat(400), 1, 0);
        Check.dueFault("fun a(){" + "}".repeat(392), 1, 9);
        Check.dueFault("fun a(){" + "x=1;".repeat(20) + " ".repeat(312), 1, 400);
    }

    private static void faultsOfPlace() {
        Check.dueFault("a", 1, 0);
        Check.dueFault("fun", 1, 3);
        Check.dueFault("fun ", 1, 4);
        Check.dueFault("fun if(){}", 1, 4);
        Check.dueFault("fun a)", 1, 5);
        Check.dueFault("fun a(b,)", 1, 8);
        Check.dueFault("fun a(b c)", 1, 8);
        Check.dueFault("fun a(1)", 1, 6);
        Check.dueFault("fun a(){", 1, 8);
        Check.dueFault("fun a(){}}", 1, 9);
        Check.dueFault("fun a(){x}", 1, 9);
        Check.dueFault("fun a(){x=}", 1, 10);
        Check.dueFault("fun a(){x=1}", 1, 11);
        Check.dueFault("fun a(){x=1+}", 1, 12);
        Check.dueFault("fun a(){x=1+2+3;}", 1, 13);
        Check.dueFault("fun a(){x=1();}", 1, 11);
        Check.dueFault("fun a(){x=a(,);}", 1, 12);
        Check.dueFault("fun a(){x=a(1 2);}", 1, 14);
        Check.dueFault("fun a(){x=if(1);}", 1, 10);
        Check.dueFault("fun a(){x=y=z();}", 1, 13);
        Check.dueFault("fun a(){if{}}", 1, 10);
        Check.dueFault("fun a(){if 1;}", 1, 12);
        Check.dueFault("fun a(){else{}}", 1, 8);
        Check.dueFault("fun a(){loop 1{}else{}}", 1, 16);
        Check.dueFault("fun a(){if 1{}else{}else{}}", 1, 20);
        Check.dueFault("fun a(){if 1{}x=1;else{}}", 1, 18);
        Check.dueFault("fun a(){if 1{give 1;}}", 1, 13);
        Check.dueFault("fun a(){give 1;give 1;}", 1, 15);
        Check.dueFault("fun a(){give 1;x=1;}", 1, 15);
        Check.dueFault("fun a(){give 1+1;}", 1, 14);
        Check.dueFault("fun a(){x=A;}", 1, 10);
        Check.dueFault("fun a(){x=1;}$", 1, 13);
        Check.dueFault("fun a(){\tx=1;}", 1, 8);
        Check.dueFault("fun a(){fun=1;}", 1, 8);
        Check.dueFault("fun a(){x=1000000000000 000;}", 3, 10);
    }

    private static void faultsOfSize() {
        Check.dueFunctions("fun abcdef(abcdef){abcdeg=0999;}", 1);
        Check.dueFault("fun abcdefg(){}", 2, 4);
        Check.dueFault("fun a(abcdefg){}", 2, 6);
        Check.dueFault("fun a(){abcdefg=1;}", 2, 8);
        Check.dueFault("fun a(){x=abcdefg;}", 2, 10);
        Check.dueFault("fun a(){x=abcdefg();}", 2, 10);
        Check.dueFault("fun a(){x=1 abcdefg;}", 1, 12);
        Check.dueFault("abcdefg", 1, 0);
        Check.dueFunctions("fun a(){x=999;}", 1);
        Check.dueFunctions("fun a(){x=000000000000000999;}", 1);
        Check.dueFault("fun a(){x=1000;}", 3, 10);
        Check.dueFault("fun a(){x=99999999999999999999;}", 3, 10);
        Check.dueFault("fun a(){x=4294967296;}", 3, 10);
        Check.dueFault("fun a(){1000=x;}", 1, 8);
        StringBuilder eight = new StringBuilder();
        for (char c = 'a'; c <= 'h'; c++) {
            eight.append("fun ").append(c).append("(){}");
        }
        Check.dueFunctions(eight.toString(), 8);
        Check.dueFault(eight + "fun a(){}", 4, 72);
        Check.dueFault(eight + "a", 1, 72);
        Check.dueFunctions("fun a(b,c,d){}", 1);
        Check.dueFault("fun a(b,c,d,e){}", 4, 12);
        Check.dueFault("fun a(b,c,d,b){}", 4, 12);
        Check.dueFault("fun a(b,c,d,bcdefgh){}", 2, 12);
        Check.dueFunctions("fun a(b,c,d){e=f+g;h=i;}", 1);
        Check.dueFault("fun a(b,c,d){e=f+g;h=i;j=1;}", 4, 23);
        Check.dueFault("fun a(b,c,d){e=f+g;h=i;e=j;}", 4, 25);
        Check.dueFault("fun a(b,c,d){e=f+g;h=i;if j{}}", 4, 26);
        Check.dueFault("fun a(b,c,d){e=f+g;h=i;e=a(b,c,j);}", 4, 31);
        Check.dueFault("fun a(b,c,d){e=f+g;h=i;e=j(b,c,d);}", 6, 25);
        Check.dueFunctions("fun a(b,c,d){e=f+g;h=i;e=a(b,c,i);}", 1);
        String sixty = "fun a(){" + "b=1;".repeat(60);
        Check.dueFunctions(sixty + "}", 1);
        Check.dueFault(sixty + "b=1;}", 4, 248);
        Check.dueFault(sixty + "if b{}}", 4, 248);
        Check.dueFault(sixty + "give b;}", 4, 248);
        Check.dueFault(sixty + "else}", 1, 248);
        Check.dueFault(sixty + "bcdefgh=1;}", 2, 248);
        String sixteen = "fun a(){" + "b=a();".repeat(16);
        Check.dueFunctions(sixteen + "}", 1);
        Check.dueFault(sixteen + "b=a();}", 4, 106);
        Check.dueFault(sixteen + "b=a;}fun a(){}", 5, 113);
        Check.dueFunctions("fun a(){if 1{if 1{loop 1{if 1{}}}}}", 1);
        Check.dueFault("fun a(){if 1{if 1{loop 1{if 1{if 1{}}}}}}", 4, 34);
        Check.dueFault("fun a(){if 1{if 1{loop 1{if 1{if 1;}}}}}", 1, 34);
        Check.dueFunctions("fun a(){if 1{if 1{loop 1{if 1{}else{}}}}}", 1);
    }

    private static void faultsOfNames() {
        Check.dueFault("fun a(){}fun b(){}fun a(){}", 5, 22);
        Check.dueFault("fun a(b,c,b){}", 5, 10);
        Check.dueFunctions("fun a(a){b=a(a);}fun b(a){}", 2);
        Check.dueFault("fun a(){x=b();}", 6, 10);
        Check.dueFault("fun a(){x=b();y=c();}fun b(){}", 6, 16);
        Check.dueFault("fun a(){x=a(1);}", 6, 10);
        Check.dueFault("fun a(b){x=a();}", 6, 11);
        Check.dueFault("fun a(){x=a(1,2,3,4,5);}", 6, 10);
        Check.dueFault("fun a(){x=b();}fun c(", 1, 21);
        Check.dueFunctions("fun a(){x=b(1,2,3);}fun b(c,d,e){}", 2);
        Check.dueFunctions("fun a\n(\n)\n{ x\n=\n1\n<\n2\n;\n}\n", 1);
        Check.dueFunctions("fun a(){if1{x=1<2;}loop2{x=y=z;}}", 1);
    }

    private static void promise4Count() {
        CallOpener x = Check.with("fun a(){b=c();if b{b=c();}}fun c(){give 3;}");
        x.counted(0);
        Check.dueAll("count", x::count, 2, 4, 2, 0, 3, 2, -1);
        Check.due("count -1", x.count(-1), -1);
        x.feed(0, 0, 0, 0, 0);
        Check.due("count 3", x.count(3), 20);
    }

    private static void promise5Function() {
        CallOpener x = Check.with("fun one(p,q){r=two();if p{s=q;}else{t=1;}}"
            + "fun two(){x=three(x);give x;}fun three(a){x=two();}fun z(){}");
        x.counted(3);
        Check.dueAll("function 0", w -> x.function(0, w), 2, 5, 4, 1, 0, 9, 0, 0, 3, 'o', 'n', 'e', -1);
        Check.dueAll("function 1", w -> x.function(1, w), 0, 1, 2, 1, 0, 2, 1, 1, 3, 't', 'w', 'o', -1);
        Check.dueAll("function 2", w -> x.function(2, w), 1, 2, 1, 1, 0, 3, 0, 1, 5, 't', 'h', 'r', 'e', 'e', -1);
        Check.dueAll("function 3", w -> x.function(3, w), 0, 0, 0, 0, 1, 0, 0, 0, 1, 'z', -1);
        CallOpener y = Check.with("fun zyxwvu(){}fun zyxwvt(){a=zyxwvu();}");
        Check.dueAll("six letters", w -> y.function(0, w), 0, 0, 0, 0, 0, 0, 0, 0, 6, 'z', 'y', 'x', 'w', 'v', 'u', -1);
        Check.due("the other", y.function(1, 14), 't');
        Check.due("no such what", x.function(0, -1), -1);
        Check.due("no such what", x.function(0, Integer.MIN_VALUE), -1);
        Check.due("no such what", x.function(0, Integer.MAX_VALUE), -1);
        Check.due("no such function", x.function(4, 0), -1);
        Check.due("no such function", x.function(-1, 0), -1);
    }

    private static void promise6Site() {
        CallOpener x = Check.with("fun a(p){q=1;loop 2{if p{}else{loop 3{r=b(p,q);}}}}fun b(c,d){e=1;d=a(1);}");
        x.argument(0, 0);
        Check.dueAll("site 0", w -> x.site(0, w), 0, 1, 0, 2, 1, 4, 2, -1);
        Check.dueAll("site 1", w -> x.site(1, w), 1, 0, 0, 0, 0, 6, 1, -1);
        x.counted(0);
        Check.due("count of the site", x.site(0, 2), 6);
        Check.due("count of the other", x.site(1, 2), 6);
        Check.due("no such what", x.site(0, -1), -1);
        Check.due("no such site", x.site(2, 0), -1);
        Check.due("no such site", x.site(-1, 0), -1);
    }

    private static void promise7Argument() {
        CallOpener x = Check.with("fun a(p,q,r){s=p-q;s=s*r;give s;}");
        Check.due("argument 0", x.argument(0, 9), 0);
        Check.due("argument 1", x.argument(1, 2), 0);
        Check.due("argument 2", x.argument(2, Integer.MIN_VALUE), 0);
        Check.due("it was so", x.argument(2, -3), Integer.MIN_VALUE);
        Check.due("run", x.run(0, 1), -21);
        Check.due("no such one", x.argument(3, 1), Integer.MIN_VALUE);
        Check.due("no such one", x.argument(-1, 1), Integer.MIN_VALUE);
        Check.due("run as before", x.run(0, 1), -21);
    }

    public static void main(String[] args) {
        promise1NewObject();
        promise2Feed();
        promise3Program();
        faultsOfPlace();
        faultsOfSize();
        faultsOfNames();
        promise4Count();
        promise5Function();
        promise6Site();
        promise7Argument();
        Check.end("ProgramTest");
    }
}
