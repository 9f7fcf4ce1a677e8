/** Promises 8 to 12: requestOf, requestAt, logged, arm, whole. */
final class ValuesTest {
    private static final Class<IllegalArgumentException> ARGUMENT = IllegalArgumentException.class;
    private static final Class<IndexOutOfBoundsException> INDEX = IndexOutOfBoundsException.class;

    public static void main(String[] args) {
        requestOf();
        requestAt();
        logged();
        arm();
        whole();
        Due.end("ValuesTest");
    }

    private static void requestOf() {
        PlateArm x = new PlateArm();
        Due.refused(x, INDEX, "requestOf(0, 0)", () -> x.requestOf(0, 0));
        Due.refused(x, INDEX, "requestOf(0, 6): the index is the first", () -> x.requestOf(0, 6));
        x.request(3, 5, 2);
        x.pass(2);
        x.request(1, 4, 7);
        x.request(8, 0, 0);
        Due.requestDue(x, 0, 3, 5, 2, 0, 1, 0);
        Due.requestDue(x, 1, 1, 4, 7, 2, 1, 0);
        Due.requestDue(x, 2, 8, 0, 0, 2, 6, 1);
        x.pass(1);
        Due.requestDue(x, 0, 3, 5, 2, 0, 0, 1);
        Due.requestDue(x, 1, 1, 4, 7, 2, 2, 0);
        Due.refused(x, ARGUMENT, "requestOf(0, 6)", () -> x.requestOf(0, 6));
        Due.refused(x, ARGUMENT, "requestOf(0, -1)", () -> x.requestOf(0, -1));
        Due.refused(x, ARGUMENT, "requestOf(2, MIN)", () -> x.requestOf(2, Integer.MIN_VALUE));
        Due.refused(x, INDEX, "requestOf(-1, 0)", () -> x.requestOf(-1, 0));
        Due.refused(x, INDEX, "requestOf(3, 0)", () -> x.requestOf(3, 0));
        x.cancel(1);
        Due.refused(x, INDEX, "requestOf(1, 0)", () -> x.requestOf(1, 0));
        Due.requestDue(x, 2, 8, 0, 0, 2, 5, 1);
    }

    private static void requestAt() {
        PlateArm x = new PlateArm();
        Due.due("requestAt(0)", x.requestAt(0), -1);
        for (int i = 0; i < 12; i++) {
            x.request(11 - i, 0, 9);
        }
        for (int i = 0; i < 12; i++) {
            Due.due("requestAt(" + i + ")", x.requestAt(i), i);
        }
        Due.due("requestAt(12)", x.requestAt(12), -1);
        Due.due("requestAt(MAX)", x.requestAt(Integer.MAX_VALUE), -1);
        Due.refused(x, ARGUMENT, "requestAt(-1)", () -> x.requestAt(-1));
        Due.refused(x, ARGUMENT, "requestAt(MIN)", () -> x.requestAt(Integer.MIN_VALUE));
        x.cancel(0);
        x.cancel(6);
        x.cancel(11);
        x.request(0, 0, 0);
        int[] left = {1, 2, 3, 4, 5, 7, 8, 9, 10, 12, -1, -1};
        for (int i = 0; i < left.length; i++) {
            Due.due("requestAt(" + i + ")", x.requestAt(i), left[i]);
        }
    }

    private static void logged() {
        PlateArm x = new PlateArm();
        for (int i = 0; i < 13; i++) {
            x.request(0, i % 6, i == 11 ? 0 : 99);
            Due.due("pass(1)", x.pass(1), 1);
            Due.loggedDue(x, 0, i, 0, i % 6, i, i == 11 ? 1 : 0);
            Due.due("logged(back, 0) of the oldest", x.logged(Math.min(i, 9), 0), Math.max(0, i - 9));
            Due.due("logged(back, 0) of none", x.logged(Math.min(i + 1, 10), 0), -1);
        }
        for (int back = 0; back < 10; back++) {
            int i = 12 - back;
            Due.loggedDue(x, back, i, 0, i % 6, i, i == 11 ? 1 : 0);
        }
        Due.loggedDue(x, 10, -1, -1, -1, -1, -1);
        Due.loggedDue(x, Integer.MAX_VALUE, -1, -1, -1, -1, -1);
        Due.refused(x, ARGUMENT, "logged(-1, 0)", () -> x.logged(-1, 0));
        Due.refused(x, ARGUMENT, "logged(MIN, 0)", () -> x.logged(Integer.MIN_VALUE, 0));
        Due.refused(x, ARGUMENT, "logged(0, 5)", () -> x.logged(0, 5));
        Due.refused(x, ARGUMENT, "logged(0, -1)", () -> x.logged(0, -1));
        Due.refused(x, ARGUMENT, "logged(10, 5)", () -> x.logged(10, 5));
        x.undo();
        Due.loggedDue(x, 0, 11, 0, 5, 11, 1);
        Due.loggedDue(x, 9, 2, 0, 2, 2, 0);
    }

    private static void arm() {
        PlateArm x = new PlateArm();
        for (int wrong : new int[] {-1, 6, Integer.MIN_VALUE, Integer.MAX_VALUE}) {
            Due.refused(x, ARGUMENT, "arm(" + wrong + ")", () -> x.arm(wrong));
        }
        x.plate(4, 5);
        x.set(0, 1);
        x.set(1, 9);
        x.set(2, 9);
        x.request(3, 0, 99);
        x.pass(2);
        Due.armDue(x, "up", 2, 1, 1, 0, 1, 2);
        x.pass(2);
        Due.armDue(x, "braked", 3, 0, 9, 1, 1, 4);
        x.pass(2);
        x.request(0, 0, 99);
        x.pass(4);
        Due.armDue(x, "down", 2, 2, 5, 0, 2, 0);
    }

    private static void whole() {
        PlateArm x = new PlateArm();
        for (int wrong : new int[] {-1, 18, Integer.MIN_VALUE, Integer.MAX_VALUE}) {
            Due.refused(x, ARGUMENT, "whole(" + wrong + ")", () -> x.whole(wrong));
        }
        x.plate(9, 4);
        x.set(1, 5);
        x.set(2, 11);
        x.set(3, 7);
        Due.type(x, "ab cd");
        x.request(2, 0, 3);
        x.request(1, 0, 2);
        x.request(8, 0, 90);
        x.request(8, 1, 90);
        x.cancel(3);
        // 0 starts, 1 steps, 2 brakes, 4 reads 0; 5 starts, 6 brakes, 8 reads 1;
        // 9 starts, 10 to 15 step, 16 brakes; 20 reads 2.
        x.pass(7);
        Due.wholeDue(x, "half way", 9, 4, 0, 5, 11, 7, 7, 2, 4, 1, 1, 0, 3, 2, 2, 0, 8, 5);
        x.pass(2);
        Due.wholeDue(x, "two read", 9, 4, 0, 5, 11, 7, 9, 1, 4, 2, 2, 0, 3, 2, 2, 0, 8, 5);
        x.pass(1);
        Due.wholeDue(x, "under way", 9, 4, 0, 5, 11, 7, 10, 1, 4, 2, 2, 0, 4, 3, 2, 0, 8, 5);
        x.pass(7);
        Due.wholeDue(x, "there", 9, 4, 0, 5, 11, 7, 17, 1, 4, 2, 2, 0, 10, 3, 3, 0, 11, 5);
        x.pass(2);
        Due.wholeDue(x, "rests", 9, 4, 0, 5, 11, 7, 19, 1, 4, 2, 2, 0, 10, 3, 3, 2, 11, 5);
    }
}
