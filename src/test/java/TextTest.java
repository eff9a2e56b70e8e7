import java.util.Random;

/** Promise 3: which drafts are statements (-2), and which names they may use (-3). */
final class TextTest {
    static void test(Checks checks) {
        testTokens(checks);
        testForms(checks);
        testNests(checks);
        testNames(checks);
        testPrecedence(checks);
        testSoup(checks);
    }

    private static void all(Checks checks, String name, int due, String... texts) {
        Trial.each(checks, "promise 3: " + name, due, texts);
    }

    private static void testTokens(Checks checks) {
        all(checks, "blanks where they are needed alone", 1,
                "select k fromA", "select 1from A", "select top1from A", "select-1from A", "select(k)from A",
                "deleteA", "updateAv=1", "updateAw=1where k=1", "select k fromAwhere k=1group v order w desc",
                "select count from A where[k=1]and not[v=1]", "selectA.k fromA", "insertA2,2,2");
        all(checks, "blanks wherever one likes", 1,
                "  select  k  from  A  ", "select A . k from A", "select sum ( k ) from A where [ k = 1 ] ",
                "select - - k from A", "update A v = 0 - 1 where k < 2");
        all(checks, "blanks that are missing or too many", -2,
                "selectk from A", "select kfrom A", "select topk from A", "sel ect k from A", "select 1 2 from A",
                "select k from A where notk=1", "select la b from A", "selectcount from A",
                "select k from A wherek=1", "select k from A order k de sc", "select k from A where k=1and2=2or 1=1and v");
        all(checks, "numbers of up to nine digits", 1,
                "select 999999999 from A", "select 000000000 from A where k=000000001");
        all(checks, "numbers of more digits", -2,
                "select 1234567890 from A", "select 0000000000 from A", "delete A where k=0000000001");
        all(checks, "what is no token or no known word", -2,
                "select k from C", "select K from A", "SELECT k from A", "select k from a", "select x from A",
                "select k/1 from A", "select k from A;", "select k from A where k>=1", "select k from A where k!1",
                "select {k} from A", "select k from A ? where k=1 ?", "select 'k' from A", "select \"k\" from A",
                "select k%1 from A", "select kk from A", "select k from AB", "selects k from A", "select 1.0 from A",
                "select k_ from A", "delete A@", "delete A~", "select labs from A", "select la from A");
        all(checks, "no tokens at all", -2, "", " ", "                ");
    }

    private static void testForms(Checks checks) {
        all(checks, "what is no insert", -2,
                "insert", "insert A", "insert A 1", "insert A 1,2", "insert A 1,2,", "insert A 1,2,3,4",
                "insert 1,2,3", "insert A,1,2,3", "insert A (1,2,3)", "insert A 5,2,3 where k=1", "insert A 5 2 3",
                "insert into A 5,2,3", "insert A count,2,3", "insert A 5,2,sum(3)", "insert A 5,2,3 5");
        all(checks, "what is no update", -2,
                "update", "update A", "update A v", "update A v=", "update A v 1", "update A k=1", "update A lab=1",
                "update A A.v=1", "update A v=1,w=2", "update A v=1 where", "update v=1", "update A,B v=1",
                "update A v=1 group v", "update A v=count", "update A v=1 order k", "update A v<1", "update A 1=1");
        all(checks, "what is no delete", -2,
                "delete", "delete from A", "delete A,B", "delete A where", "delete A k=1", "delete A order k",
                "delete k", "delete A where k", "delete A where k=1,k=2", "delete A A", "delete 1");
        all(checks, "what is no select", -2,
                "select", "select from A", "select k", "select k from", "select k,from A", "select ,k from A",
                "select k k from A", "select top from A", "select top top k from A", "select k top from A",
                "select k from A,", "select k from A B", "select k from A,B,A", "select k from A,B,",
                "select k from A where", "select k from A group", "select k from A order", "select k from A desc",
                "select k from A desc order k", "select k from A order k asc", "select k from A order desc",
                "select k from A order k desc desc", "select k from A order k,v", "select k from A group k,v",
                "select k from A group k+1", "select k from A group 1", "select k from A group count",
                "select k from A group (k)", "select k from A order k group v", "select k from A group v where k=1",
                "select k from A order k where k=1", "select k from A where k=1 where k=1", "select *from A",
                "select k,v,w,lab from A", "select k,v,w,count from A", "select A.A.k from A", "select A. from A",
                "select A from A", "select .k from A", "select k.A from A", "k from A", "select select k from A");
        all(checks, "count and sum that stand wrong", -2,
                "select count+1 from A", "select 1+count from A", "select (count) from A", "select -count from A",
                "select count(k) from A", "select sum from A", "select sum k from A", "select sum() from A",
                "select sum(k from A", "select sum k) from A", "select sum(k)+1 from A", "select sum(count) from A",
                "select sum(sum(k)) from A", "select sum(k=1) from A", "select k from A where count=1",
                "select k from A where sum(k)=1", "select 2*sum(k) from A");
        all(checks, "expressions that are none", -2,
                "select k+ from A", "select +k from A", "select k++k from A", "select k** v from A", "select *k from A",
                "select () from A", "select (k from A", "select k) from A", "select k+-+v from A", "select [k] from A",
                "select k- from A", "select k=1 from A", "select (k,v) from A", "select not k from A", "select - from A");
        all(checks, "conditions that are none", -2,
                "delete A where k==1", "delete A where k<>1", "delete A where k=1=1", "delete A where (k=1)",
                "delete A where [k]=1", "delete A where not", "delete A where k=1 and", "delete A where k=1 or",
                "delete A where or k=1", "delete A where and k=1", "delete A where k=1 not v=1", "delete A where [k=1",
                "delete A where k=1]", "delete A where []", "delete A where k=1 and or v=1", "delete A where k<",
                "delete A where =1", "delete A where k=not v=1", "delete A where [k=1) ", "delete A where -[k=1]");
        all(checks, "forms in full", 1,
                "select top k,v,w from A where k=1 group lab order sum(k) desc", "select A.lab from A group A.k",
                "update A w=((k))*-2+-v-A.w*lab where not not[[k=1]or k=2]and A.v=2", "select count from A order count",
                "select sum(k),sum(v+1),sum(-w) from A order sum(1)", "delete A where A.k=1", "select k from A order A.v",
                "insert B 1+1,(2)*3,-4", "select top count from A", "select k from A where k=1 and v=2 and w=3 or k=9");
    }

    private static void testNests(Checks checks) {
        all(checks, "a nest in five others", 1,
                "select ((((((k)))))) from A", "select ------k from A", "select -(-(-(k))) from A",
                "select k from A where [[[[[[k=1]]]]]]", "select k from A where not not not not not not k=1",
                "select k from A where not[not[not[k=2]]]", "select k from A where [[[[[(k)=1]]]]]",
                "select k from A where [[not not[(k)=-k+2]]]",
                "select sum(((((((k))))))) from A", "select ((((((k))))))+((((((k)))))) from A",
                "select k from A order ((((((k))))))", "update A v=((((((1))))))", "insert B ((((((1)))))),1,------1",
                "insert B 1,((((((1)))))),1", "insert B ------1,1,((((((1))))))",
                "select k from A where [[[k=1]]]and[[[[[[k=1]]]]]]and not not not not[[k=1]]");
        all(checks, "a nest in six others", -2,
                "select (((((((k))))))) from A", "select -------k from A", "select -(-(-(-k))) from A",
                "select k from A where [[[[[[[k=1]]]]]]]", "select k from A where not not not not not not not k=1",
                "select k from A where [[[[[[(k)=1]]]]]]", "select k from A where [[[[[[1=-k]]]]]]",
                "select k from A where [[not not[(-(k))=1]]]", "select sum((((((((k)))))))) from A",
                "select ((((((k))))))+(((((((k))))))) from A", "select k from A order (((((((k)))))))",
                "update A v=(((((((1)))))))", "insert B 1,1,-------1", "insert B 1,(((((((k))))))),1",
                "insert B (((((((1))))))),1,1", "insert B 1,1,(((((((1)))))))",
                "select --------1 from A", "select ((((((()))))))+1 from A", "delete A where [[[[[[[]]]]]]]",
                "select -------+1 from A", "select -------*1 from A", "delete A where [[[[[[not]]]]]]");
        all(checks, "the longest chains", 1,
                "select 1+1+1+1+1+1+1+1+1+1+1+1+1+1+1+1+1+1+1+1+1+1+1+1+1+1+1+1+1+1+1+1+1from A",
                "select k from A where 1=1or 1=1or 1=1or 1=1or 1=1or 1=1or 1=1or 1=1or 1=1or 1=1");
        all(checks, "the longest nonsense", -2,
                "select " + "-".repeat(73), "select " + "(".repeat(73), "delete A where " + "[".repeat(65),
                "select " + "-+".repeat(36), "insert A " + "-*".repeat(35), "delete A where " + "not ".repeat(16),
                ",".repeat(80), "k".repeat(80), "1".repeat(80), "select k" + ",k".repeat(36), "A.k".repeat(26),
                "delete A where k" + "=-".repeat(32), "select " + "1+(-".repeat(18));
    }

    private static void testNames(Checks checks) {
        all(checks, "names that are not the statement's", -3,
                "select k from A,A", "select 1 from A,A", "select A.k from A,A", "select 1 from B,B",
                "select B.k from A", "select A.k from B", "select k from A where B.k=1", "select k from A group B.k",
                "select k from A order B.k", "select sum(B.k) from A", "select k from A order sum(B.k)",
                "select count from A where 1=1 or k=B.k", "delete A where B.k=1", "delete B where A.k=1",
                "update A v=B.v", "update A v=1 where B.v=1", "update A v=k+A.k+B.k");
        all(checks, "with two tables all have names", -3,
                "select k from A,B", "select A.k,v from A,B", "select A.k from A,B where k=1", "select 1 from A,B group k",
                "select 1 from A,B order k", "select sum(k) from A,B", "select 1 from B,A order sum(A.k+v)");
        all(checks, "an insert has no columns", -3,
                "insert A k,1,1", "insert A 1,v,1", "insert A 1,1,w", "insert A lab,1,1", "insert A A.k,1,1",
                "insert A 5,1,B.k", "insert A 5,(1+(k)),1", "insertAB.k,1,1");
        all(checks, "names with one table", 1,
                "select A.k,v,A.lab+w from A where A.k=k group A.v order A.w", "delete A where A.k=k",
                "update A v=A.v+v where A.lab=lab");
        new Trial(checks, "promise 3: names with two tables", 0, 0, 0, 0)
                .run(0, "insert A 1,2,3", 1).run(0, "insert B 4,5,6", 1)
                .select(0, "select A.k,B.k,A.v*B.w from A,B where A.k<B.k group B.v order A.w", "1 4 12")
                .select(0, "select A.k,B.k,A.lab from B,A", "1 4 0").select(0, "select count from B,A", "1")
                .select(0, "select 7,B.v,B.w from A,B", "7 5 6");
    }

    /** Texts of any tokens, which are statements by chance alone, answer as in the model. */
    private static void testSoup(Checks checks) {
        Random random = new Random(17);
        for (int i = 0; i < 20000; i++) {
            String text = Drafts.soup(random);
            LabelledTables tables = new LabelledTables(0, 0, 0, 0);
            Model model = new Model(0, 0, 0, 0);
            for (int at = 0; at < 80; at += 8) {
                long w = Trial.pack(text.substring(at, at + 8));
                tables.write(0, w);
                model.write(0, w);
            }
            checks.same("promise 3: run of '" + text + "'", model.run(0), tables.run(0));
        }
    }

    private static void testPrecedence(Checks checks) {
        all(checks, "-2 before -3", -2, "select k from A,A,", "insert A k,1", "select B.k from A order", "delete A where B.k");
        new Trial(checks, "promise 3: -2, then -3, then -6, then the others", 1, 1, 1, 1)
                .run(1, "insert A 1,1,1", 1).begin(0, 0)
                .run(1, "insert A 1,1", -2).run(1, "insert A 1,1,k", -3).run(1, "insert A 1,1,1", -6)
                .run(1, "delete B", -6).run(1, "update A v=1 where 1=2", -6).run(1, "delete B where A.k=1", -3)
                .run(1, "update A", -2).run(1, "select B.k from A", -3).run(1, "select k from A", 1)
                .run(0, "insert A 1,1,1", -4).run(0, "insert A 2,1,1", 1).abort(0, 0).run(1, "insert A 1,1,1", -4)
                .sees(2, Trial.A, "1 1 1 1");
    }
}
