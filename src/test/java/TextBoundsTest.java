import java.util.ArrayList;
import java.util.List;
import java.util.regex.Matcher;
import java.util.regex.Pattern;

/** The boundary cases of a draft's tokens, and of how tokens make a statement, a sentence of the document at a time. */
final class TextBoundsTest {
    static void test(Checks checks) {
        testLength(checks);
        testWords(checks);
        testNames(checks);
        testNumbers(checks);
        testSigns(checks);
        testBlanks(checks);
        testNoTokens(checks);
        testAnyNumberOfTimes(checks);
        testOnceOrNotAtAll(checks);
        testStatements(checks);
        testTables(checks);
        testColumns(checks);
        testColumnsOfUpdate(checks);
        testX(checks);
        testMostX(checks);
        testEmpty(checks);
    }

    private static void testLength(Checks checks) {
        String sentence = "each session has a DRAFT of at most 80 characters";
        Trial.each(checks, sentence, 1, "delete" + " ".repeat(73) + "A", " ".repeat(72) + "delete A",
                "delete A" + " ".repeat(72), "delete A where k=1 " + "or k=2 ".repeat(7) + "or k=1234567",
                "insert A 1234," + "-1".repeat(32) + ",1");
        Trial.each(checks, sentence, 1, "delete" + " ".repeat(72) + "A",
                "delete A where k=1" + "and k=1 ".repeat(6) + "and k=1");
        for (int session = 0; session < 4; session++) {
            new Trial(checks, sentence, 0, 0, 0, 0).text(session, "delete A" + " ".repeat(71)).draft(session, 79)
                    .write(session, ' ', true).draft(session, 80).write(session, ' ', false).write(session, 'A', false)
                    .draft(session, 80).run(session, 0).text(session, "delete A" + " ".repeat(72))
                    .write(session, 'A', false).run(session, 0).draft(session, 0);
        }
        sentence = "a draft of 80 characters may be as many tokens";
        Trial.each(checks, sentence, -2, "A".repeat(80), ",".repeat(80), "-".repeat(79) + "1", "A1".repeat(40),
                "1A".repeat(40), "(".repeat(80), "k".repeat(80), "1".repeat(80), "select " + "-".repeat(73),
                "select k" + ",k".repeat(36), "select k from A order " + "k".repeat(58),
                "delete A where k" + "=k".repeat(32), "+".repeat(79) + "k",
                "select k from A order k" + "+k".repeat(28) + "*");
        Trial.each(checks, sentence, 1, "select k from A order k" + "+k".repeat(28),
                "select 1" + "+k*1".repeat(16) + " from A");
    }

    /** Every word of some statements, with a letter more, or one less, or one that is great. */
    private static void testWords(Checks checks) {
        String[] statements = {
            "select top k,sum(v) from A where not k=9 or v=2 and w=3", "select count from A group lab order k desc",
            "update A v=1 where k=1", "update A w=lab", "delete A", "insert A 5,2,3",
        };
        String sentence = "WORDS (letters a .. z, as long as they go on)";
        for (String statement : statements) {
            Trial.each(checks, sentence, 1, statement);
            Matcher words = Pattern.compile("[a-z]+").matcher(statement);
            while (words.find()) {
                String before = statement.substring(0, words.start());
                String word = words.group();
                String behind = statement.substring(words.end());
                Trial.each(checks, sentence, -2, before + word + "a" + behind, before + word + "z" + behind,
                        before + "a" + word + behind, before + "z" + word + behind, before + word.substring(1) + behind,
                        before + word.substring(0, word.length() - 1) + behind,
                        before + word.substring(0, 1).toUpperCase() + word.substring(1) + behind);
            }
        }
    }

    private static void testNames(Checks checks) {
        String sentence = "the NAMES A and B";
        Trial.each(checks, sentence, 1, "delete A", "select A.k from A", "insert B 1,1,1");
        Trial.each(checks, sentence, 0, "delete B", "select B.k from B");
        for (char c = 'C'; c <= 'Z'; c++) {
            Trial.each(checks, sentence, -2, "delete " + c, "select " + c + ".k from A", "insert " + c + " 5,2,3",
                    "select " + c + " from A", "select 1 from A," + c);
        }
        Trial.each(checks, sentence, -2, "delete a", "delete b", "select a.k from A", "insert b 5,2,3", "delete AA",
                "delete AB", "delete A1", "select A.k from AA");
    }

    private static void testNumbers(Checks checks) {
        String sentence = "NUMBERS (digits, as long as they go on, at most 9; more are no token)";
        Trial.worth(checks, sentence, "0", 0);
        Trial.worth(checks, sentence, "9", 9);
        Trial.worth(checks, sentence, "123456789", 123456789);
        Trial.worth(checks, sentence, "987654321", 987654321);
        Trial.worth(checks, sentence, "000000000", 0);
        Trial.worth(checks, sentence, "999999999", 999999999);
        Trial.worth(checks, sentence, "000000012", 12);
        Trial.worth(checks, sentence, "12345678", 12345678);
        Trial.each(checks, sentence, -2, "insert A 1234567890,2,3", "insert A 5,0000000000,3",
                "insert A 5,2,9999999999", "insert A 0000000005,2,3", "select 1234567890 from A",
                "select k from A where k=0000000001", "select 1+0000000001 from A",
                "insert A " + "1".repeat(18) + ",2,3", "select " + "0".repeat(65) + "1 from A", "insert A 5 5,2,3",
                "insert A 123456789 0,2,3");
        Trial.each(checks, sentence, 1, "insert A 000000005,2,3", "insert A 5,000000000,3", "insert A 5,2,999999999",
                "select 123456789 from A", "select k from A where k=000000001");
    }

    /** Which characters may stand between two columns. */
    private static void testSigns(Checks checks) {
        String sentence = "the SIGNS ( ) [ ] , . + - * = < >";
        for (char c = ' '; c <= '~'; c++) {
            Trial.each(checks, sentence, "+-*,".indexOf(c) >= 0 ? 1 : -2, "select v" + c + "w from A");
            Trial.each(checks, sentence, c == '=' || c == '>' ? 0 : c == '<' ? 1 : -2, "delete A where v" + c + "w");
            Trial.each(checks, sentence, c == '.' ? 1 : -2, "select A" + c + "k from A");
        }
        Trial.each(checks, sentence, 1, "select (v)from A", "delete A where[v=2]",
                "select (A.v+v-w*k),k from A where[v<w]");
        Trial.each(checks, sentence, -2, "select (v]from A", "select [v)from A", "select [v]from A", "select {v}from A",
                "delete A where[v=2)", "delete A where(v=2]", "delete A where(v=2)", "delete A where{v=2}",
                "delete A where v<=w", "delete A where v>=w", "delete A where v<>w", "delete A where v==w");
    }

    private static void testBlanks(Checks checks) {
        String sentence = "blanks stand between tokens as one likes";
        Trial.each(checks, sentence, 1, "   delete   A   ", "select k , v , A . w from A where [ k = 1 ] order v desc",
                " select  top  sum ( - k )  from  A  group  A . k ", "update A v = ( 1 + 2 ) * - w where not k < 1 ",
                "insert  B  1 , 2 , 3 ", "select 1 from A where k > 0 and v = 2 or w = 9");
        sentence = "blanks must stand only where two would be one (a word and a name never are)";
        Trial.each(checks, sentence, 1, "deleteA", "insertA5,2,3", "updateAv=1", "selectA.k fromA",
                "select k fromAwhere k=1", "select k fromAgroup v order w", "select 1from A", "select top1from A",
                "select top(k)from A", "select-k from A", "select k from A where v=2and w=3or 1=2",
                "select k from A where[k=1]and not[k=2]", "select k from A where not[k=2]group v order-w desc",
                "select sum(v)from A order count");
        Trial.each(checks, sentence, -2, "deleteAwherek=1", "selectk from A", "select kfrom A", "select topk from A",
                "select A.kfrom A", "select k from A wherek=1", "select k from A groupk", "select k from A orderk",
                "select k from A order kdesc", "select k from A group korder k", "select k from A where notk=2",
                "select k from A where k=vand v=w", "select k from A where k=vor v=2", "insert A 12 3,4",
                "insert A 1 2,3,4");
        Trial.each(checks, sentence, -3, "insertAB.k,2,3", "insert A B.k,2,3");
        sentence = "blanks stand between tokens, not in them";
        Trial.each(checks, sentence, -2, "dele te A", "d elete A", "delet e A", "select la b from A",
                "select co unt from A", "select k from A or der k", "insert A 5,2 0,3", "insert A 5,2,3 0");
    }

    /** Any printable character but a blank, put where none may stand, spoils a statement. */
    private static void testNoTokens(Checks checks) {
        for (char c = '!'; c <= '~'; c++) {
            Trial.each(checks, "anything else is none", -2, "delete A" + c, c + "delete A", "delete " + c + "A",
                    "select k from A " + c + " where k=1");
        }
        Trial.each(checks, "a blank is no token", 1, "delete A ", " delete A", "delete  A",
                "select k from A   where k=1");
    }

    private static void testAnyNumberOfTimes(Checks checks) {
        String sentence = "what stands between { } may stand there any number of times";
        for (int times : new int[] {0, 1, 2, 29, 30, 31, 32, 33}) {
            Trial.worth(checks, sentence, "1" + "+1".repeat(times), 1 + times);
            Trial.worth(checks, sentence, "1" + "-1".repeat(times), 1 - times);
            Trial.worth(checks, sentence, "2" + "*2".repeat(times), (int) (2L << times));
        }
        for (int times : new int[] {0, 1, 2, 8, 9}) {
            String or = "or1=2".repeat(times);
            Trial.each(checks, sentence, 1, "delete A where 1=1" + or, "delete A where 1=2" + or + "or1=1");
            Trial.each(checks, sentence, 0, "delete A where 1=2" + or);
            String and = "and1=1".repeat(times);
            Trial.each(checks, sentence, 0, "delete A where 1=2" + and, "delete A where 1=1" + and + "and1=2");
            Trial.each(checks, sentence, 1, "delete A where 1=1" + and);
        }
        Trial.each(checks, sentence, 1, "select k from A", "select k,v from A", "select k,v,w from A");
    }

    private static void testOnceOrNotAtAll(Checks checks) {
        String sentence = "what stands between ? ? may stand there once or not at all";
        Trial.each(checks, sentence, 1, "select k from A", "select top k from A", "select k from A where k=1",
                "select k from A group k", "select k from A order k", "select k from A order k desc", "delete A",
                "delete A where k=1", "update A v=1", "update A v=1 where k=1",
                "select top k from A where k=1 group k order k desc", "select k from A where k=1 order k",
                "select k from A where k=1 group k", "select k from A group k order k");
        Trial.each(checks, sentence, 0, "select top A.k from A,B where A.k=1 group A.k order A.k desc",
                "select 1 from A,B");
        Trial.each(checks, sentence, -2, "select top top k from A", "select 1 from A,B,A", "select 1 from A,B,B",
                "select k from A where k=1 where k=1", "select k from A group k group k",
                "select k from A order k order k", "select k from A order k desc desc", "delete A where k=1 where k=1",
                "update A v=1 where k=1 where k=1", "select k from A where", "select k from A group",
                "select k from A order", "select k from A,", "select k from A desc", "select k from A group k desc",
                "select k from A where k=1 desc", "delete A where", "update A v=1 where", "insert A 5,2,3 where k=1",
                "insert A 5,2,3,4", "update A v=1,w=2", "delete A,B", "delete top A", "delete A group k",
                "delete A order k", "update A v=1 group k", "update A v=1 order k");
        sentence = "what may stand once stands in its order";
        Trial.each(checks, sentence, -2, "select k top from A", "select k from A group k where k=1",
                "select k from A order k where k=1", "select k from A order k group k", "select k from A order desc k",
                "select k from A desc order k", "select k from A where k=1, B", "select k where k=1 from A",
                "select from A k", "delete where k=1 A", "update A where k=1 v=1", "select k,top v from A");
    }

    /** Statements without what they may leave out: none with a token less, or twice, or with two exchanged. */
    private static void testStatements(Checks checks) {
        String sentence = "a STATEMENT is one of";
        testTokens(checks, sentence, "insert A 5 , 2 , 3");
        testTokens(checks, sentence, "update A v = 5 where k = 1", 5);
        testTokens(checks, sentence, "delete A where k = 1", 2);
        testTokens(checks, sentence, "select k , v from A where k = 1 group v order w", 6, 10, 12);
        testTokens(checks, sentence, "select A . k from A order A . v", 6);
        Trial.each(checks, sentence, -2, "A", "k", "1", "drop A", "insert", "update", "delete", "select", "where k=1",
                "delete A delete A", "delete A,delete A", "insert into A 5,2,3", "delete from A", "update A set v=1",
                "select * from A", "select k from A order by k", "create A", "begin", "commit", "crash");
    }

    /** Whole are the counts of tokens behind which the statement may end, too. */
    private static void testTokens(Checks checks, String sentence, String statement, Integer... whole) {
        Trial.each(checks, sentence, 1, statement);
        List<String> tokens = List.of(statement.split(" "));
        for (int i = 0; i < tokens.size(); i++) {
            List<String> less = new ArrayList<>(tokens);
            less.remove(i);
            List<String> twice = new ArrayList<>(tokens);
            twice.add(i, tokens.get(i));
            List<String> exchanged = new ArrayList<>(less);
            exchanged.add((i + 1) % tokens.size(), tokens.get(i));
            Trial.each(checks, sentence, -2, String.join(" ", less), String.join(" ", twice),
                    String.join(" ", exchanged));
            Trial.each(checks, sentence, List.of(whole).contains(i) ? 1 : -2, String.join(" ", tokens.subList(0, i)));
        }
    }

    private static void testTables(Checks checks) {
        String sentence = "T is a name";
        Trial.each(checks, sentence, -2, "delete k", "delete 1", "delete (A)", "delete A.", "delete A.k", "delete",
                "delete top", "insert k,2,3", "insert 5,2,3", "insert (A) 5,2,3", "update v=1", "update 1 v=1",
                "update [A] v=1", "select k from k", "select k from 1", "select k from (A)", "select k from A.",
                "select k from A.k", "select A from A", "select k from", "select A.k from A,k", "select A.k from A,1",
                "select A.k from A,(B)", "select k from where k=1", "select k from from A");
        Trial.each(checks, sentence, 1, "delete A", "insert A 5,2,3", "insert B 5,2,3", "update A v=1",
                "select k from A");
        Trial.each(checks, sentence, 0, "delete B", "update B v=1", "select k from B", "select A.k from A,B",
                "select A.k from B,A");
    }

    private static void testColumns(Checks checks) {
        String sentence = "COL one of k, v, w, lab, or a name, a period and one of these";
        Trial.each(checks, sentence, 1, "select k,v,w from A", "select lab from A", "select A.k,A.v,A.w from A",
                "select A.lab from A", "select 1 from A group k", "select 1 from A group v", "select 1 from A group w",
                "select 1 from A group lab", "select 1 from A group A.lab", "select A . lab from A");
        new Trial(checks, sentence, 6, 0, 0, 0).run(0, "insert A 1,2,3", 1).select(0, "select k,v,w from A", "1 2 3")
                .select(0, "select A.k,A.v,A.w from A", "1 2 3").select(0, "select lab,A.lab from A", "6 6");
        Trial.each(checks, sentence, -2, "select key from A", "select label from A", "select a from A",
                "select A from A", "select A. from A", "select .k from A", "select A k from A", "select A..k from A",
                "select A.A from A", "select A.A.k from A", "select A.1 from A", "select 1.k from A",
                "select k.A from A", "select k.v from A", "select A.(k) from A", "select (A).k from A",
                "select A,k from A", "select A.count from A", "select top.k from A", "select 1 from A group 1",
                "select 1 from A group k+1", "select 1 from A group (k)", "select 1 from A group -k",
                "select 1 from A group A", "select 1 from A group A.", "select 1 from A group count",
                "select 1 from A group k,v");
    }

    private static void testColumnsOfUpdate(Checks checks) {
        String sentence = "for update it is v or w, without a name";
        new Trial(checks, sentence, 0, 0, 0, 0).run(0, "insert A 1,2,3", 1).run(0, "update A v=8", 1)
                .sees(0, Trial.A, "1 8 3 0").run(0, "update A w=9", 1).sees(0, Trial.A, "1 8 9 0")
                .run(0, "insert B 1,2,3", 1).run(0, "update B w=7", 1).sees(0, Trial.B, "1 2 7 0");
        Trial.each(checks, sentence, -2, "update A k=1", "update A lab=0", "update A A.v=1", "update A A.w=1",
                "update A B.v=1", "update A 1=1", "update A (v)=1", "update A -v=1", "update A vw=1", "update A v,w=1",
                "update A =1", "update A v<1", "update A v>1", "update A v+1", "update A v 1", "update A v=");
    }

    private static void testX(Checks checks) {
        String sentence = "X is an E, or count, or sum ( E )";
        Trial.each(checks, sentence, 1, "select 1 from A", "select count from A", "select sum(k) from A",
                "select sum(k*(v+1)) from A", "select k from A order count", "select k from A order sum(v-w)",
                "select count,sum(1),-k from A", "select count,count,count from A");
        Trial.each(checks, sentence, -2, "select count+1 from A", "select 1+count from A", "select -count from A",
                "select (count) from A", "select sum(k)+1 from A", "select 1+sum(k) from A", "select -sum(k) from A",
                "select (sum(k)) from A", "select sum k from A", "select sum from A", "select sum() from A",
                "select sum(k from A", "select sum k) from A", "select sum[k] from A", "select sum(k,v) from A",
                "select sum(count) from A", "select sum(sum(k)) from A", "select sum(k=1) from A",
                "select count(k) from A", "select count() from A", "select k from A order count+1",
                "select k from A order (count)", "select k from A where count=1", "select k from A where 1=sum(k)",
                "update A v=count", "update A v=sum(k)", "insert A count,2,3", "insert A 5,sum(2),3",
                "insert A 5,2,count", "delete A where count=1", "select k=1 from A", "select [k] from A",
                "select not k from A", "select k from A order k=1");
    }

    private static void testMostX(Checks checks) {
        String sentence = "at most three X stand before from (a fourth is no statement)";
        Trial.each(checks, sentence, 1, "select k from A", "select k,v from A", "select k,v,w from A",
                "select count,count,count from A", "select sum(k),sum(v),sum(w) from A", "select top k,v,w from A",
                "select k,v,w from A group lab order sum(k) desc", "select k,v,w from A order lab");
        Trial.each(checks, sentence, -2, "select k,v,w,lab from A", "select k,k,k,k from A", "select 1,1,1,1,1 from A",
                "select count,count,count,count from A", "select k,v,w,count from A",
                "select sum(k),sum(v),sum(w),1 from A", "select top k,v,w,lab from A", "select k,v,w, from A",
                "select from A", "select top from A", "select ,k from A", "select k,,v from A",
                "select 1" + ",1".repeat(32) + " from A");
        Trial.each(checks, sentence, 0, "select A.k,A.v,B.k from A,B");
        Trial.each(checks, sentence, -2, "select A.k,A.v,B.k,B.v from A,B", "select A.k,A.v,k,v from A,A");
    }

    private static void testEmpty(Checks checks) {
        Trial.each(checks, "an empty draft is no statement", -2, "", " ", "  ", " ".repeat(79), " ".repeat(80));
        new Trial(checks, "RUNNING a draft (an empty one is no statement)", 0, 0, 0, 0)
                .run(0, -2).run(0, "delete A", 0).run(0, -2).text(0, "delete A").crash().run(0, -2).run(3, -2)
                .text(1, "delete A").run(0, -2).run(1, 0).write(0, 0, true).run(0, -2).begin(0, 0).run(1, -2);
    }
}
