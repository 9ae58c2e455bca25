/** Terms: "A call that throws changes nothing."; and calls that answer NONE, which change nothing either. */
public final class RefusedEdgesTest {
    private static final int[] FAR = {-1, Integer.MIN_VALUE, Integer.MAX_VALUE};

    public static void main(String[] args) {
        theStageItselfIsAsSaid();
        aPutThatThrowsChangesNothing();
        aGreyThatThrowsChangesNothing();
        anOctetThatThrowsChangesNothing();
        aRefusedTurnChangesNothing();
        aRefusedSideChangesNothing();
        aPartThatIsNotThereChangesNothing();
        theCallsThatOnlyTellChangeNothing();
        Check.end("RefusedEdgesTest");
    }

    private static void theStageItselfIsAsSaid() {
        new Stage().dueUntouched("no call");
    }

    private static void aPutThatThrowsChangesNothing() {
        int[][] places = {{-1, 1}, {6, 0}, {0, -1}, {0, 4}, {-1, -1}, {6, 4}};
        for (int[] place : places) {
            Stage stage = new Stage();
            String call = "put(" + place[0] + ", " + place[1] + ")";
            Check.dueOutside(call, () -> {
                stage.sheet.put(place[0], place[1], (byte) 1);
                return 0;
            });
            stage.dueUntouched(call);
        }
    }

    private static void aGreyThatThrowsChangesNothing() {
        int[][] places = {{-1, 1}, {6, 0}, {0, -1}, {0, 4}};
        for (int[] place : places) {
            Stage stage = new Stage();
            String call = "grey(" + place[0] + ", " + place[1] + ")";
            Check.dueOutside(call, () -> stage.sheet.grey(place[0], place[1]));
            stage.dueUntouched(call);
        }
    }

    private static void anOctetThatThrowsChangesNothing() {
        for (int i : new int[] {-1, 8, 9, Integer.MIN_VALUE, Integer.MAX_VALUE}) {
            Stage stage = new Stage();
            Check.dueOutside("octet(" + i + ")", () -> stage.sheet.octet(i));
            stage.dueUntouched("octet(" + i + ")");
        }
    }

    /** "NONE, and nothing changes, when b is not -100 .. 100" */
    private static void aRefusedTurnChangesNothing() {
        for (int b : new int[] {-101, 101, -132, 132, Integer.MIN_VALUE, Integer.MAX_VALUE}) {
            Stage stage = new Stage();
            Check.due("turn(" + b + ")", stage.sheet.turn(b), SheetRows.NONE);
            stage.dueUntouched("turn(" + b + ")");
        }
    }

    /** "NONE when other is none of these" */
    private static void aRefusedSideChangesNothing() {
        for (int other : new int[] {-1, 4, 5, Integer.MIN_VALUE, Integer.MAX_VALUE}) {
            Stage stage = new Stage();
            Check.due("side(" + other + ")", stage.sheet.side(other), SheetRows.NONE);
            stage.dueUntouched("side(" + other + ")");
        }
    }

    /** "NONE when there is none such, or what is none of these" */
    private static void aPartThatIsNotThereChangesNothing() {
        for (int far : FAR) {
            Stage stage = new Stage();
            Check.due("part(" + far + ", 0)", stage.sheet.part(far, 0), SheetRows.NONE);
            Check.due("part(0, " + far + ")", stage.sheet.part(0, far), SheetRows.NONE);
            stage.dueUntouched("part with " + far);
        }
    }

    private static void theCallsThatOnlyTellChangeNothing() {
        Stage stage = new Stage();
        stage.sheet.threshold();
        stage.sheet.inverted();
        stage.sheet.skew();
        stage.sheet.turn(0);
        stage.dueUntouched("threshold(), inverted(), skew() and turn(0)");
    }
}
