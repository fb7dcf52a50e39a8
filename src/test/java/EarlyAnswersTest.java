/** Terms, the count of a line: answers that come before the DATA, for every number of them. */
public final class EarlyAnswersTest {
    public static void main(String[] args) {
        for (int others = 0; others <= 3; others++) {
            for (int early = 0; early <= others; early++) {
                write("IM", others, early);
                write("SM", others, early);
            }
        }
        Script.finish();
    }

    /** Core 3 writes block 0, which the others have read, and early ones of them answer before its DATA. */
    private static void write(String state, int others, int early) {
        StringBuilder rows = new StringBuilder();
        for (int c = 0; c < others; c++) {
            rows.append("code " + c + " LOAD 0; step " + c + "; settle;");
        }
        if (state.equals("SM")) {
            rows.append("code 3 LOAD 0; step 3; settle;");
        }
        rows.append("code 3 SET 5; code 3 STORE 0; step 3; step 3 = 2; deliver 0 = " + (1 + others) + ";");
        rows.append("message 0 kind = DATA; message 0 number = " + others + ";");
        rows.append("deliver 1;".repeat(others) + "messages = " + (1 + others) + ";");
        for (int k = 0; k < early; k++) {
            rows.append("message 1 kind = ACK; deliver 1; line 3 0 = " + state + ";");
        }
        rows.append("deliver 0 = " + (others - early) + ";");
        for (int left = others - early; left > 0; left--) {
            rows.append("line 3 0 = " + state + "A; step 3 = 0; deliver 0 = " + (left - 1) + ";");
        }
        rows.append("line 3 0 = M; word 3 0 = 5; messages = 0; memory 0 = 0; home 0 = 18; step 3 = 4");
        Script.run(early + " of " + others + " answers before the DATA in " + state, 4, 1, rows.toString());
    }
}
