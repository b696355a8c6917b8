/** Drawn runs of 512 calls on a MarbleGarden and on PlainGarden: all answers are the same, whichever call is the last. */
public final class ModelTest {
    private static final int RUNS = 660;

    public static void main(String[] args) throws Exception {
        int wrong = 0;
        for (int seed = 0; seed < RUNS && wrong < 5; seed++) {
            var last = DrawnRun.METHODS.get(seed % DrawnRun.METHODS.size());
            wrong += new DrawnRun(seed).endsAsDueWith(last) ? 0 : 1;
        }
        System.out.println(RUNS + " runs, " + wrong + " of them not as due");
        if (wrong != 0) {
            System.exit(1);
        }
    }
}
