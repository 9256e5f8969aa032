/** Promise 1: a new object has nothing, and objects have nothing in common. */
public final class NewObjectTest {
    public static void main(String[] args) {
        NeedleHomes used = new NeedleHomes();
        Due.goodPattern(used, "a1", 0, 0, 0);
        Due.goodList(used, "rate:1;", 0, 0, 0);
        used.hand(1, 1, 0);
        used.out(0, 0, 0);
        used.day(9);
        used.image(1);
        used.time(0, 1);
        used.feed(1, 2, 3, 4, 5);

        NeedleHomes x = new NeedleHomes();
        for (int what = 0; what <= 9; what++) {
            Due.is("count(" + what + ")", x.count(what), 0);
        }
        for (int k = 0; k < 3; k++) {
            Due.no("again(" + k + ")", x.again(k));
        }
        Due.is("fault(0)", x.fault(0), 0);
        Due.is("fault(1)", x.fault(1), -1);
        Due.is("end(0)", x.end(0), 0);
        Due.is("end(1)", x.end(1), -1);
        Due.is("about(0, 0)", x.about(0, 0), -2);
        Due.is("tell(0, 0)", x.tell(0, 0), -2);
        Due.is("piece(0, 0)", x.piece(0, 0), -2);
        Due.is("lists(0, 0, 0)", x.lists(0, 0, 0), -1);
        Due.is("lists(0, 0, 1)", x.lists(0, 0, 1), -2);
        Due.is("carried(2)", x.carried(2), 0);
        Due.is("even(0, 0, 1)", x.even(0, 0, 1), 0);
        Due.is("NONE", NeedleHomes.NONE, -1);
        Due.end();
    }
}
