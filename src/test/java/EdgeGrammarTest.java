/** The edges of the grammar (promises 3 and 4), but for depth, which has a test of its own. */
public final class EdgeGrammarTest {
    private static final String[] DECLARING = {"let b;", "let b=1;", "const b=1;", "var b;", "var b=1;", "fn b(){}"};
    private static final String[] OWNERS = {"if(a)", "if(a);else ", "while(a)"};

    public static void main(String[] args) {
        Check check = new Check();
        statementsPerhapsNone(check);
        valuesOfDeclarations(check);
        parametersPerhapsNone(check);
        fourParametersAtMost(check);
        valuesOfCallsPerhapsNone(check);
        elseBelongsToTheLastIf(check);
        returnOnlyInFn(check);
        excuseOfOneDigit(check);
        noneThatDeclares(check);
        whatIsWritten(check);
        theEnd(check);
        theFirstThatCanNotStand(check);
        check.end();
    }

    /** "PROGRAM: STATEMENTS, perhaps none, and the end", and so in a BLOCK */
    private static void statementsPerhapsNone(Check check) {
        check.edge("", "}", 0);
        check.edge("{}", "{", 1);
        check.edge("{}", "{}}", 2);
        check.edge("{{}}", "{{}", 3);
        check.edge("fn f(){}", "fn f(){", 7);
        check.edge("fn f(){}", "fn f()", 6);
        check.edge("fn f(){}", "fn f();", 6);
        check.edge("fn f(){};", "fn f()a;", 6);
        check.edge("if(a){}", "if(a)", 5);
        check.edge("if(a){}else{}", "if(a){}else", 11);
        check.edge("while(a){}", "while(a)", 8);
    }

    /** let and var with a VALUE or not, const with one */
    private static void valuesOfDeclarations(Check check) {
        check.edge("let a;", "let a=;", 6);
        check.edge("var a;", "var a=;", 6);
        check.edge("const a=1;", "const a;", 7);
        check.edge("const a=1;", "const a=;", 8);
        check.edge("let a=b=c;", "let a=b=;", 8);
        check.edge("let a=1;", "let a=1", 7);
        check.edge("let a=1;", "let a==1;", 5);
    }

    /** "PARAMETERS: NAMES with "," between, perhaps none" */
    private static void parametersPerhapsNone(Check check) {
        check.edge("fn f(){}", "fn f(,){}", 5);
        check.edge("fn f(a){}", "fn f(a,){}", 7);
        check.edge("fn f(a,b){}", "fn f(a b){}", 7);
        check.edge("fn f(a,b){}", "fn f(a,,b){}", 7);
        check.edge("fn f(a){}", "fn f(1){}", 5);
        check.edge("fn f(lets){}", "fn f(let){}", 5);
        check.edge("fn f(a){}", "fn f(a=1){}", 6);
    }

    /** "4 at most" */
    private static void fourParametersAtMost(Check check) {
        check.edge("fn f(a,b,c,d){}", "fn f(a,b,c,d,e){}", 12);
        check.edge("fn f(a,a,a,a){}", "fn f(a,a,a,a,a){}", 12);
        check.edge("fn f(a,b,c,d){}", "fn f(a,b,c,d,){}", 12);
        check.wrongPlace("fn f(a,b,c,d", 12);
        check.wrongPlace("fn f(a,b,c,", 11);
        check.wrongPlace("fn f(a,b,c){}", -1);
        check.wrongPlace("f(a,b,c,d,e,g,h);", -1);
        check.same("things of 4 PARAMETERS", Check.reading("fn f(a,b,c,d){}").count(3), 5);
    }

    /** "VALUES ... with "," between, perhaps none" */
    private static void valuesOfCallsPerhapsNone(Check check) {
        check.edge("f();", "f(,);", 2);
        check.edge("f(a);", "f(a,);", 4);
        check.edge("f(a);", "f(,a);", 2);
        check.edge("f(a,b);", "f(a b);", 4);
        check.edge("f(a);", "f(a;", 3);
        check.edge("(a);", "();", 1);
        check.edge("if(a);", "if();", 3);
        check.edge("while(a);", "while();", 6);
    }

    /** "an else belongs to the last if that has none" */
    private static void elseBelongsToTheLastIf(Check check) {
        check.edge("if(a);else;", "if(a);;else;", 7);
        check.edge("if(a);else;", "if(a);else;else;", 11);
        check.edge("if(a)if(b);else;else;", "if(a)if(b);else;else;else;", 21);
        check.edge("if(a){}else;", "{if(a);}else;", 8);
        check.edge("if(a)while(b)if(c);else;else;", "while(a);else;", 9);
        check.edge("if(a)@1 if(b);else;else;", "@1;else;", 3);
        check.edge("if(a)@1;else;", "else;", 0);
        // Whose the else is shows where an EXCUSE of the inner if ends.
        check.finds("if(1)@0 if(2)a;else b;", "");
        check.finds("if(1)@0 if(2)a;else;else b;", "0@25");
    }

    /** ""return" ..., only in a fn" */
    private static void returnOnlyInFn(Check check) {
        check.edge("fn f(){return;}", "return;", 0);
        check.edge("fn f(){return 1;}", "return 1;", 0);
        check.edge("fn f(){return;}", "fn f(){}return;", 8);
        check.edge("fn f(){{return;}}", "{return;}", 1);
        check.edge("fn f(){if(a)return;}", "if(a)return;", 5);
        check.edge("fn f(){if(a);else return;}", "if(a);else return;", 11);
        check.edge("fn f(){while(a)return;}", "while(a)return;", 8);
        check.edge("fn f(){@1return;}", "@1return;", 2);
        check.edge("{fn f(){return;}}", "{fn f(){}return;}", 9);
        check.edge("fn f(){fn g(){}return;}", "fn f(){fn g(){}}return;", 16);
        check.edge("fn f(){fn g(){return;}}", "{fn f(){{}}{return;}}", 12);
        check.edge("fn f(){return(1);}", "fn f(){return}", 13);
    }

    /** "an EXCUSE, if the NUMBER is one digit (else it is as if the NUMBER could not stand there)" */
    private static void excuseOfOneDigit(Check check) {
        for (int n = 0; n <= 9; n++) {
            check.edge("@" + n + "a;", "@1" + n + " a;", 1);
            check.edge("@" + n + "@" + n + ";", "@" + n + "@0" + n + ";", 3);
        }
        check.edge("@1;", "@;", 1);
        check.edge("@1;", "@a;", 1);
        check.edge("@1;", "@'1';", 1);
        check.edge("@1;", "@-1;", 1);
        check.edge("@1;", "@1", 2);
        check.edge("@ 1 ;", "@ 12 ;", 2);
        check.edge("@1;", "@1}", 2);
        check.edge("{@1;}", "{@1}", 3);
        check.edge("@1 2;", "@1 2", 4);
        check.edge("if(a)@9;", "if(a)@10;", 6);
    }

    /** "The STATEMENT of an if, else, while is none of let, const, var, fn (...; behind an EXCUSE, too)" */
    private static void noneThatDeclares(Check check) {
        for (String owner : OWNERS) {
            int at = owner.length();
            for (String statement : DECLARING) {
                check.edge(owner + "{" + statement + "}", owner + statement, at);
                check.edge(owner + "@1{" + statement + "}", owner + "@1 " + statement, at + 3);
                check.edge(owner + "@1@2;" + statement, owner + "@1@2 " + statement, at + 5);
                check.edge(owner + ";" + statement, owner + owner + statement, at + at);
            }
        }
        for (String statement : DECLARING) {
            check.wrongPlace("@1 " + statement, -1);
            check.wrongPlace("@1@2 " + statement, -1);
            check.wrongPlace("{@1 " + statement + "}", -1);
        }
    }

    /** "NAME "=" VALUE; or EQUAL": only a NAME that begins a VALUE is WRITTEN. */
    private static void whatIsWritten(Check check) {
        check.edge("a=b;", "1=b;", 1);
        check.edge("a=b;", "(a)=b;", 3);
        check.edge("a=b;", "f()=b;", 3);
        check.edge("a=b;", "!a=b;", 2);
        check.edge("a+(b=c);", "a+b=c;", 3);
        check.edge("a=b+c;", "a=b+c=d;", 5);
        check.edge("f(a=b);", "f(a+b=c);", 5);
        check.edge("return1=a;", "if=a;", 2);
        check.edge("a- -b;", "a+ +b;", 3);
        check.edge("a*!b;", "a!b;", 1);
        check.edge("a-b;", "a-;", 2);
    }

    /** "the end: how many LETTERS there are" */
    private static void theEnd(Check check) {
        check.edge("a;", "a", 1);
        check.edge("a;", "a ", 2);
        check.edge("a;", "a \n\n", 4);
        check.edge("{}", "{", 1);
        check.edge("let a;", "let", 3);
        check.edge(" ".repeat(158) + "a;", " ".repeat(159) + "a", 160);
        check.edge(" ".repeat(160), "{" + " ".repeat(159), 160);
        check.edge(";" + " ".repeat(159), "1" + " ".repeat(158), 159);
    }

    /** "the first TOKEN that can not stand there": what is wrong behind it does not matter. */
    private static void theFirstThatCanNotStand(Check check) {
        check.wrongPlace("a b #", 2);
        check.wrongPlace("a b 'c", 2);
        check.wrongPlace("a b c }", 2);
        check.wrongPlace("# a b", 0);
        check.wrongPlace("a; # b c", 3);
        check.wrongPlace("return; let;", 0);
        check.wrongPlace("let; return;", 3);
    }
}
