/** Promise 3: what insert, delete and update do, in a transaction and without one. */
final class ChangeTest {
    static void test(Checks checks) {
        testExpressions(checks);
        testConditions(checks);
        testInsert(checks);
        testDelete(checks);
        testUpdate(checks);
        testUpdateMakesRows(checks);
        testUpdateOverflows(checks);
        testRunAlone(checks);
    }

    private static void testExpressions(Checks checks) {
        String[][] cases = {
            {"1-2-3", "-4"}, {"10-2*3+1", "5"}, {"(10-2)*3", "24"}, {"2*3*4-5*-2", "34"}, {"--7", "7"},
            {"-2*3", "-6"}, {"-(2+3)", "-5"}, {"5--3", "8"}, {"5+-3", "2"}, {"2-(3-4)", "3"}, {"0-5", "-5"},
            {"999999999*3", "-1294967299"}, {"999999999+999999999+999999999", "-1294967299"},
            {"0-999999999-999999999-999999999", "1294967299"}, {"65536*65536", "0"}, {"65536*32768", "-2147483648"},
            {"-(65536*32768)", "-2147483648"}, {"000000012", "12"}, {"-0", "0"}, {"1-2+3", "2"}, {"2*-3*-4", "24"},
        };
        for (String[] one : cases) {
            new Trial(checks, "promise 3: expressions", 0, 0, 0, 0)
                    .run(0, "insert A " + one[0] + ",8," + one[0], 1).sees(0, Trial.A, one[1] + " 8 " + one[1] + " 0");
        }
    }

    private static void testConditions(Checks checks) {
        String[][] cases = {
            {"k=1", "1"}, {"k<3", "2"}, {"k>3", "1"}, {"k<3 or k>3", "3"}, {"k>1 and k<4", "2"}, {"not k=1", "3"},
            {"k=1 or k=2 and k=3", "1"}, {"[k=1 or k=2] and k=2", "1"}, {"k=3 and k=4 or k=1", "1"},
            {"not k=1 and not k=2", "2"}, {"not [k=1 or k=2]", "2"}, {"not not k=1", "1"}, {"v=k*10", "4"},
            {"k=1 or k=2 or k=3", "3"}, {"k=1 and k=2 and k=1", "0"}, {"not k=1 or k=1", "4"}, {"w<0-2", "2"},
            {"lab=2", "4"}, {"lab=0", "0"}, {"A.k=2", "1"}, {"w>k", "0"}, {"1<2", "4"}, {"2<2", "0"}, {"2>2", "0"},
            {"-65536*32768<0", "4"}, {"0-999999999*2-147483648>0", "0"}, {"not [not [k<3] or not [k>1]]", "1"},
        };
        for (String[] one : cases) {
            new Trial(checks, "promise 3: conditions", 2, 0, 0, 0)
                    .run(0, "insert A 1,10,-1", 1).run(0, "insert A 2,20,-2", 1)
                    .run(0, "insert A 3,30,-3", 1).run(0, "insert A 4,40,-4", 1)
                    .run(0, "delete A where " + one[0], Integer.parseInt(one[1]))
                    .rows(0, Trial.A, 4 - Integer.parseInt(one[1]));
        }
    }

    private static void testInsert(Checks checks) {
        new Trial(checks, "promise 3: insert", 0, 1, 2, 3)
                .run(0, "insert A 5,1,2", 1).run(0, "insert A 5,3,4", -4).run(0, "insert B 5,3,4", 1)
                .run(1, "insert A 5,5,6", 1).run(3, "insert A 5,7,8", 1).run(3, "insert A -5,9,9", 1)
                .sees(3, Trial.A, "-5 9 9 3; 5 1 2 0; 5 5 6 1; 5 7 8 3").sees(0, Trial.B, "5 3 4 0");
        Trial full = new Trial(checks, "promise 3: at most 6 rows of a label and table", 1, 0, 1, 3);
        for (int k = 6; k > 0; k--) {
            full.run(0, "insert A " + k + ",0,0", 1);
        }
        full.run(0, "insert A 7,0,0", -5).run(2, "insert A 8,0,0", -5).run(0, "insert A 6,0,0", -4);
        full.run(0, "insert B 7,0,0", 1).run(1, "insert A 7,0,0", 1).run(3, "insert A 7,0,0", 1).rows(3, Trial.A, 8);
        full.run(0, "delete A where k=3", 1).run(2, "insert A 3,1,1", 1).run(0, "insert A 9,1,1", -5);
        full.begin(2, 0).run(2, "insert A 9,1,1", -5).run(2, "insert A 3,1,1", -4).run(2, "delete A where k=4", 1);
        full.run(2, "insert A 9,1,1", 1).run(2, "insert A 4,1,1", -5).busy(2, true).commit(2, 3);
        full.sees(0, Trial.A, "1 0 0 1; 2 0 0 1; 3 1 1 1; 5 0 0 1; 6 0 0 1; 7 0 0 0; 9 1 1 1");
    }

    private static void testDelete(Checks checks) {
        new Trial(checks, "promise 3: delete takes rows of the own label alone", 0, 1, 3, 7)
                .run(0, "insert A 1,1,1", 1).run(1, "insert A 1,2,2", 1).run(2, "insert A 1,3,3", 1)
                .run(2, "insert A 2,4,4", 1).run(2, "insert B 2,4,4", 1)
                .run(2, "delete A where lab=0", 0).run(3, "delete A", 0).run(1, "delete A where v=3", 0)
                .run(2, "delete A where v>2 and k<2", 1).sees(3, Trial.A, "1 1 1 0; 1 2 2 1; 2 4 4 3")
                .run(2, "delete A", 1).run(2, "delete A", 0).sees(3, Trial.A, "1 1 1 0; 1 2 2 1")
                .sees(3, Trial.B, "2 4 4 3").run(0, "delete A", 1).sees(2, Trial.A, "1 2 2 1");
    }

    private static void testUpdate(Checks checks) {
        new Trial(checks, "promise 3: update of own rows", 2, 2, 2, 2)
                .run(0, "insert A 1,10,100", 1).run(0, "insert A 2,20,200", 1).run(0, "insert B 1,0,0", 1)
                .run(0, "update A v=w+v*k", 2).sees(1, Trial.A, "1 110 100 2; 2 240 200 2")
                .run(0, "update A w=v-w where k=2", 1).sees(1, Trial.A, "1 110 100 2; 2 240 40 2")
                .run(0, "update A v=v", 2).run(0, "update A v=240 where k=2", 1).run(0, "update A v=1 where k=3", 0)
                .run(0, "update A v=lab where v>lab", 2).sees(1, Trial.A, "1 2 100 2; 2 2 40 2")
                .run(0, "update A w=-w where w>50 or k>5", 1).sees(1, Trial.A, "1 2 -100 2; 2 2 40 2")
                .sees(1, Trial.B, "1 0 0 2").run(0, "update B w=k", 1).sees(1, Trial.B, "1 0 1 2");
    }

    private static void testUpdateMakesRows(Checks checks) {
        Trial trial = new Trial(checks, "promise 3: update makes rows of the own label", 0, 1, 3, 4);
        trial.run(0, "insert A 1,10,11", 1).run(0, "insert A 2,20,21", 1).run(1, "insert A 1,12,13", 1);
        trial.run(2, "update A v=v+lab+100", 2);
        trial.sees(2, Trial.A, "1 10 11 0; 1 12 13 1; 1 110 11 3; 2 20 21 0; 2 120 21 3");
        trial.log(2, 3).log(0, 4).log(1, 2).sees(1, Trial.A, "1 10 11 0; 1 12 13 1; 2 20 21 0");
        trial.run(2, "update A w=lab where lab<3", 0).run(2, "update A w=w*2 where k=1", 1);
        trial.sees(2, Trial.A, "1 10 11 0; 1 12 13 1; 1 110 22 3; 2 20 21 0; 2 120 21 3");
        trial.run(2, "delete A where k=1", 1).run(2, "update A w=5 where lab=1 or k=2", 2);
        trial.sees(2, Trial.A, "1 10 11 0; 1 12 13 1; 1 12 5 3; 2 20 21 0; 2 120 5 3");
        trial.run(3, "update A v=0 where lab>0", 0).run(3, "update A v=0-k where not k=2", 1);
        trial.sees(3, Trial.A, "1 10 11 0; 1 -1 11 4; 2 20 21 0").sees(0, Trial.A, "1 10 11 0; 2 20 21 0");

        // Sessions of unlike labels: what one does in its transaction, the other one works with when it is committed.
        new Trial(checks, "promise 3: update works with committed rows of other labels", 0, 1, 0, 0)
                .begin(0, 0).run(0, "insert A 1,1,1", 1).run(1, "update A v=2", 0).commit(0, 2)
                .begin(0, 0).run(0, "update A v=5", 1).run(1, "update A w=2", 1)
                .sees(1, Trial.A, "1 1 1 0; 1 1 2 1").abort(0, 0);
        new Trial(checks, "promise 3: update asks of the rows as they were", 1, 0, 1, 1)
                .run(1, "insert A 1,7,7", 1).run(1, "insert A 2,7,7", 1).run(0, "insert A 3,7,7", 1)
                .run(0, "update A v=v+1 where v=7", 3)
                .sees(0, Trial.A, "1 7 7 0; 1 8 7 1; 2 7 7 0; 2 8 7 1; 3 8 7 1");
    }

    private static void testUpdateOverflows(Checks checks) {
        Trial trial = new Trial(checks, "promise 3: update makes at most 6 rows", 0, 1, 3, 1);
        for (int k = 1; k < 6; k++) {
            trial.run(0, "insert A " + k + ",0,0", 1);
        }
        trial.run(1, "insert A 7,1,1", 1).run(1, "insert A 6,1,1", 1).run(1, "update A v=9", -5);
        trial.run(1, "update A v=9 where k>1", 6).sees(3, Trial.A,
                "1 0 0 0; 2 0 0 0; 2 9 0 1; 3 0 0 0; 3 9 0 1; 4 0 0 0; 4 9 0 1; 5 0 0 0; 5 9 0 1; 6 9 1 1; 7 9 1 1");
        trial.log(1, 4 + 7).begin(3, 0).run(3, "update A v=8", -5).busy(3, true).run(3, "delete A where k=3", 1);
        trial.run(3, "update A v=8 where k<3 or k>6", 3).run(3, "update A w=1", -5);
        trial.sees(1, Trial.A, "1 0 0 0; 1 8 0 1; 2 0 0 0; 2 8 0 1; 3 0 0 0; 4 0 0 0; 4 9 0 1; 5 0 0 0;"
                + "5 9 0 1; 6 9 1 1; 7 8 1 1");
        trial.commit(3, 5).log(1, 16);
    }

    /** A statement without a transaction is one by itself: its records must fit into the log. */
    private static void testRunAlone(Checks checks) {
        Trial trial = new Trial(checks, "promise 3: a statement that can't be committed", 0, 0, 1, 0);
        for (int i = 0; i < 14; i++) {
            trial.run(0, i % 2 == 0 ? "insert A 1,1,1" : "delete A", 1).log(0, 2 * i + 2);
        }
        trial.run(0, "insert A 1,1,1", 1).log(0, 30).run(0, "delete A", -5).run(1, "update A v=2", -5);
        trial.run(0, "insert B 1,1,1", -5).sees(1, Trial.A, "1 1 1 0").rows(0, Trial.B, 0).log(0, 30).busy(0, false);
        trial.run(0, "insert A 1,2,2", -4).run(0, "update A v=v", 1).run(0, "delete A where k=2", 0).log(0, 30);
        trial.run(2, "update A v=2", 1).log(2, 2).sees(2, Trial.A, "1 1 1 0; 1 2 1 1");
        trial.begin(0, 0).run(0, "delete A", 1).run(0, "insert B 1,1,1", 1).commit(0, -5).busy(0, true).abort(0, 0);
        trial.checkpoint(1, 2).run(0, "delete A", 1).log(0, 4);

        Trial almost = new Trial(checks, "promise 3: a statement whose mark does not fit", 0, 0, 0, 0);
        almost.begin(0, 0).run(0, "insert A 1,1,1", 1).run(0, "insert A 2,1,1", 1).commit(0, 3);
        for (int i = 0; i < 13; i++) {
            almost.run(0, "update A v=" + (i + 2) + " where k=1", 1).log(0, 5 + 2 * i);
        }
        almost.log(0, 29).run(0, "update A v=0 where k=1", -5).sees(0, Trial.A, "1 14 1 0; 2 1 1 0").log(0, 29);
    }
}
