import java.util.ArrayList;
import java.util.List;

/**
 * All that later calls show of an object, a text for each call. It takes some 430 of the 512 calls
 * that an object is good for and ends by following HINTS and by asking for more LINES and INPUTS, so
 * an object can be pictured once, and is of no use behind that.
 */
final class Picture {
    private final BlockMarker x;
    private final List<String> shown = new ArrayList<>();

    private Picture(BlockMarker x) {
        this.x = x;
    }

    static List<String> of(BlockMarker x) {
        Picture picture = new Picture(x);
        picture.showRun();
        picture.showLines();
        picture.showOrders();
        picture.showAnswer();
        picture.showMarks();
        picture.showRoom();
        return picture.shown;
    }

    private void show(String call, long got) {
        shown.add(call + " = " + got);
    }

    private void showRun() {
        for (int k = 0; k < 16; k++) {
            show("printed(" + k + ")", x.printed(k));
        }
        for (int v = 0; v < 6; v++) {
            show("value(" + v + ")", x.value(v));
        }
    }

    private void showLines() {
        show("digest()", x.digest());
        for (int what = 0; what <= 6; what++) {
            show("count(" + what + ")", x.count(what));
        }
        int many = x.count(0);
        for (int l = 0; l < many; l++) {
            for (int what = 0; what <= 4; what++) {
                show("told(" + l + ", " + what + ")", x.told(l, what));
            }
            for (int b = 0; b < many; b++) {
                if (b != l) {
                    show("needs(" + l + ", " + b + ")", x.needs(l, b));
                }
            }
        }
    }

    private void showOrders() {
        long many = x.orders();
        show("orders()", many);
        for (int i = 0; i < 12; i++) {
            show("right(orders() - 1, " + i + ")", x.right(many - 1, i));
        }
        show("which()", x.which());
    }

    private void showAnswer() {
        int size = x.size();
        show("size()", size);
        for (int place = 0; place < size; place++) {
            show("at(" + place + ")", x.at(place));
            show("kept(" + place + ")", x.kept(place));
        }
        show("alike()", x.alike());
    }

    private void showMarks() {
        show("mark()", x.mark());
        for (int what = 0; what < 3; what++) {
            show("hint(" + what + ")", x.hint(what));
        }
        int mark = 0;
        for (int i = 0; i < 17 && mark != BlockMarker.NONE; i++) {
            mark = x.follow();
            show("follow()", mark);
        }
        show("digest() behind follow()", x.digest());
    }

    private void showRoom() {
        show("clear()", x.clear());
        show("input() that comes next", x.input(0, 0, 0, 0, 0, 0));
        show("decoy() that comes next", x.decoy(5, 0, 0));
        show("run(0, true)", x.run(0, true));
        show("value(0) behind it", x.value(0));
        show("wipe()", x.wipe());
    }
}
