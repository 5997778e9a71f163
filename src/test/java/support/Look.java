import java.util.ArrayList;
import java.util.List;

/** All that can be seen of an object, in one order; looking at the end takes it apart. */
final class Look {
    private final Run x;
    private final List<String> seen = new ArrayList<>();

    private Look(Run x) {
        this.x = x;
    }

    /** Two objects, of which the second made a call more that must have changed nothing; status() is looked at elsewhere. */
    static void alike(Due due, String call, Run untouched, Run called) {
        List<String> before = new Look(untouched).all();
        List<String> behind = new Look(called).all();
        due.is("after " + call + " the number of things seen", behind.size(), before.size());
        for (int i = 0; i < before.size() && i < behind.size(); i++) {
            if (!before.get(i).equals(behind.get(i))) {
                due.fail("after " + call + " there is " + behind.get(i) + ", without it " + before.get(i));
                return;
            }
        }
    }

    private void see(String call) {
        seen.add(call + " = " + x.answer(call));
    }

    private List<String> all() {
        see("fault()");
        for (int what = 0; what < 7; what++) {
            see("count(" + what + ")");
        }
        for (int i = 0; i < 7; i++) {
            see("trace(" + i + ")");
        }
        market(6);
        undone();
        images();
        rows();
        see("market()");
        see("fault()");
        return seen;
    }

    private void market(int most) {
        for (int i = 0; i < 6; i++) {
            for (int what = 1; what <= most; what++) {
                see("stall(" + i + ", " + what + ")");
            }
        }
        for (int rope = 0; rope < 3; rope++) {
            see("rope(" + rope + ", 1, 2)");
            see("rope(" + rope + ", 4, 1)");
        }
    }

    private void undone() {
        for (int i = 0; i < 25; i++) {
            see("undo()");
        }
        see("count(4)");
        market(5);
    }

    private void images() {
        for (int k = 0; k < 2; k++) {
            see("restore(" + k + ")");
            see("count(4)");
            market(5);
        }
    }

    private void rows() {
        for (int row = 0; row < 4; row++) {
            see("whoCut(" + row + ", 0)");
            see("set(" + row + ", 0, 40000)");
            see("drop(" + row + ")");
        }
    }
}
