/** Promise 3: go. */
public final class GoTest {
    public static void main(String[] args) {
        places();
        noSuchCore();
        placeTooSmallOrTooLarge();
        aCoreThatWaits();
        aCoreThatWaitsNoMore();
        Script.finish();
    }

    private static void places() {
        Script.run("go", 2, 1,
                "code 0 SET 1; code 0 SET 2; code 0 SET 3",
                "go 0 2 = true; place 0 = 2; place 1 = 0; step 0 = 1; accumulator 0 = 3; place 0 = 3",
                "go 0 0 = true; place 0 = 0; step 0 = 1; accumulator 0 = 1");
    }

    private static void noSuchCore() {
        for (int n = 2; n <= 4; n++) {
            for (int no : Edges.noCores(n)) {
                Script.run("go of no core", n, 1, "go " + no + " 0 = false; go " + no + " 5 = false; go " + no + " 17 = false");
            }
            Script.run("go of the first and the last core", n, 1,
                    "go 0 6 = true; go " + (n - 1) + " 8 = true; place 0 = 6; place " + (n - 1) + " = 8");
        }
    }

    private static void placeTooSmallOrTooLarge() {
        for (String no : new String[] {"LOWEST", "-1", "17", "32", "HIGHEST"}) {
            Script.run("no such place", 2, 1, "go 0 5; go 0 " + no + " = false; place 0 = 5");
        }
        for (int place = 0; place <= 16; place++) {
            Script.run("a place without an instruction", 2, 1,
                    "go 1 " + place + " = true; place 1 = " + place + "; place 0 = 0; step 1 = 4; go 1 0 = true; place 1 = 0");
        }
    }

    private static void aCoreThatWaits() {
        for (int state = 3; state <= 10; state++) {
            int place = Edges.placeIn(state);
            Script.run("go of a core that waits", 3, 1, Edges.pathTo(state),
                    "go 0 0 = false; go 0 1 = false; go 0 16 = false; go 0 -1 = false; go 0 17 = false",
                    "go 0 " + place % 32 + " = false; place 0 = " + place + "; go 2 3 = true; place 2 = 3");
        }
    }

    private static void aCoreThatWaitsNoMore() {
        Script.run("go behind an access", 2, 1,
                "code 0 LOAD 0; step 0; deliver 0; go 0 0 = false; deliver 0 = 0; place 0 = 1; go 0 0 = true; place 0 = 0");
        Script.run("go behind a replacement", 2, 1,
                "code 0 LOAD 0; code 0 LOAD 1; code 0 SET 5; step 0; settle; step 0 = 3; deliver 0 = 1; go 0 2 = false",
                "deliver 0 = 0; place 0 = 1; go 0 2 = true; step 0 = 1; accumulator 0 = 5; line 0 0 = I; line 0 1 = I");
    }
}
