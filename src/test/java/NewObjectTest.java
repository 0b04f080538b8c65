/** Promise 1: a new object. */
public final class NewObjectTest {
    public static void main(String[] args) {
        Due due = new Due("NewObjectTest");
        FireTax x = new FireTax();
        for (int what = 0; what <= 15; what++) {
            due.is("count(" + what + ")", x.count(what), what == 7 ? -1 : 0);
        }
        due.is("NONE", FireTax.NONE, -1);
        due.is("night", x.night(), -1);
        due.is("house", x.house(0, 0), -2);
        due.is("officer", x.officer(0, 0), -1);
        due.is("force 0", x.force(0), -2);
        due.is("undo", x.undo(), -2);
        for (int k = 0; k < 4; k++) {
            due.is("back " + k, x.back(k), -1);
        }
        due.end();
    }
}
