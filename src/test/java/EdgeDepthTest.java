/** The edges of depth (promises 3 and 4): 12 deep is fine, and the first TOKEN of what would be 13 deep is wrong. */
public final class EdgeDepthTest {
    private static final int DEEPEST = 12;

    public static void main(String[] args) {
        Check check = new Check();
        outermostAreOne(check);
        eachStatement(check);
        eachPart(check);
        eachValueBehindBecomes(check);
        eachInACall(check);
        oneInAnother(check);
        notDeeper(check);
        sideBySide(check);
        check.end();
    }

    /** The STATEMENT stands as deep as it says. */
    private static String at(int depth, String statement) {
        return "{".repeat(depth - 1) + statement + "}".repeat(depth - 1);
    }

    /**
     * What the STATEMENT holds goes down by so many from its own depth; one deeper, and the TOKEN at
     * that offset is the first that would be 13 deep.
     */
    private static void goesDown(Check check, String statement, int by, int offset) {
        int depth = DEEPEST - by;
        check.edge(at(depth, statement), at(depth + 1, statement), depth + offset);
    }

    /** "the outermost STATEMENTS 1, and at most 12 deep" */
    private static void outermostAreOne(Check check) {
        check.edge(at(12, ";"), at(13, ";"), 12);
        check.edge(at(12, "{}"), at(13, "{}"), 12);
        check.edge(at(12, "a;"), at(13, "a;"), 12);
        check.edge(at(12, "let a;"), at(13, "let a;"), 12);
        check.edge(";" + at(12, ";"), ";" + at(13, ";"), 13);
        check.wrongPlace("{".repeat(12), 12);
        check.wrongPlace("{".repeat(13), 12);
        check.wrongPlace("{".repeat(12) + "#", 12);
    }

    /** "each STATEMENT ... is one deeper than what it is in" */
    private static void eachStatement(Check check) {
        goesDown(check, "{;}", 1, 1);
        goesDown(check, "{a;b;}", 1, 1);
        goesDown(check, "fn f(){;}", 1, 7);
        goesDown(check, "fn f(a,b){return;}", 1, 10);
        goesDown(check, "if(a);", 1, 5);
        goesDown(check, "if(a)b;else c;", 1, 5);
        goesDown(check, "if(a);else if(b);", 2, 16);
        goesDown(check, "while(a);", 1, 8);
        goesDown(check, "@1;", 1, 2);
        goesDown(check, "@1 let a;", 1, 3);
        goesDown(check, "@1{}", 1, 2);
    }

    /** "each PART that begins with !, - or (" */
    private static void eachPart(Check check) {
        goesDown(check, "!a;", 1, 0);
        goesDown(check, "-a;", 1, 0);
        goesDown(check, "(a);", 1, 0);
        goesDown(check, "1+!a;", 1, 2);
        goesDown(check, "1--a;", 1, 2);
        goesDown(check, "1*(a);", 1, 2);
        goesDown(check, "if(!a)b;", 1, 3);
        goesDown(check, "while(-a)b;", 1, 6);
        goesDown(check, "fn f(){return(a);}", 2, 13);
    }

    /** "each VALUE behind a "=" (of let, const, var, too)" */
    private static void eachValueBehindBecomes(Check check) {
        goesDown(check, "a=b;", 1, 2);
        goesDown(check, "a=1;", 1, 2);
        goesDown(check, "let a=b;", 1, 6);
        goesDown(check, "const a=b;", 1, 8);
        goesDown(check, "var a=b;", 1, 6);
        goesDown(check, "a=b+c;", 1, 2);
        goesDown(check, "let a=b+c;", 1, 6);
    }

    /** "and each in the ( ) behind a NAME" */
    private static void eachInACall(Check check) {
        goesDown(check, "f(a);", 1, 2);
        goesDown(check, "f(1,2,3);", 1, 2);
        goesDown(check, "a+f(b);", 1, 4);
        goesDown(check, "f(1)+f(2);", 1, 2);
        goesDown(check, "f();", 0, 0);
    }

    private static void oneInAnother(Check check) {
        goesDown(check, "!!a;", 2, 1);
        goesDown(check, "-!a;", 2, 1);
        goesDown(check, "!(a);", 2, 1);
        goesDown(check, "((a));", 2, 1);
        goesDown(check, "(a=b);", 2, 3);
        goesDown(check, "a=b=c;", 2, 4);
        goesDown(check, "a=!b;", 2, 2);
        goesDown(check, "let a=(b);", 2, 6);
        goesDown(check, "let a=b=c;", 2, 8);
        goesDown(check, "f(g(a));", 2, 4);
        goesDown(check, "f(!a);", 2, 2);
        goesDown(check, "f(a=b);", 2, 4);
        goesDown(check, "f(1,!a);", 2, 4);
        goesDown(check, "!f(a);", 2, 3);
        goesDown(check, "(f());", 1, 0);
        goesDown(check, "a=f(b);", 2, 4);
        goesDown(check, "@1@2;", 2, 4);
        goesDown(check, "@1!a;", 2, 2);
        goesDown(check, "if(a)!b;", 2, 5);
        goesDown(check, "while(a)b=c;", 2, 10);
        goesDown(check, "fn f(){fn g(){;}}", 2, 14);
        goesDown(check, "fn f(){let a=1;}", 2, 13);
    }

    /** What the sentence does not name is as deep as what it is in. */
    private static void notDeeper(Check check) {
        String[] flat = {
            "a;", "1;", "'a';", "a+b;", "a*b-c<d==e===1;", "f();", "f()+g();", "let a;", "var a;", ";", "{}",
            "fn f(){}", "fn f(a,b,c,d){}",
        };
        for (String statement : flat) {
            goesDown(check, statement, 0, 0);
        }
        goesDown(check, "fn f(){return a+b;}", 1, 7);
        goesDown(check, "if(a+b)c;", 1, 7);
        goesDown(check, "while(a<b)c;", 1, 10);
        goesDown(check, "(a+b*c);", 1, 0);
        goesDown(check, "!a+b;", 1, 0);
    }

    /** What stands beside it makes nothing deeper. */
    private static void sideBySide(Check check) {
        check.wrongPlace(at(11, "!a+!b;"), -1);
        check.wrongPlace(at(11, "(a)*(b);"), -1);
        check.wrongPlace(at(11, "f(a)+f(b,c);"), -1);
        check.wrongPlace(at(11, "a=b;a=b;"), -1);
        check.wrongPlace(at(11, "{;}{;}@1;"), -1);
        check.wrongPlace(at(11, "if(!a)b;else c;"), -1);
        check.wrongPlace(at(12, ";;{}a;"), -1);
        check.wrongPlace(at(11, ";") + at(12, ";"), -1);
    }
}
