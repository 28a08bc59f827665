import java.util.ArrayList;
import java.util.List;

/** All that can be seen of an object, so that two which were used alike can be held against each other. */
final class Whole {
    private Whole() {
    }

    /** Reading alone; fault() is left out, as a refused common() changes it. */
    static List<Integer> seen(KissGates x) {
        List<Integer> all = new ArrayList<>(ofSectionTwo(x));
        all.add(x.told(2));
        for (int what = 11; what <= 13; what++) {
            all.add(x.told(what));
        }
        int persons = x.told(1);
        for (int p = 0; p < persons; p++) {
            for (int q = 0; q < persons; q++) {
                if (p != q) {
                    all.add(x.likes(p, q));
                }
            }
        }
        all.add(x.mayBe());
        all.add(x.judge());
        return all;
    }

    /** What is done changes this, and undo() brings it back. */
    static List<Integer> ofSectionTwo(KissGates x) {
        List<Integer> all = new ArrayList<>();
        int gates = x.told(0);
        int persons = x.told(1);
        for (int what = 3; what <= 10; what++) {
            all.add(x.told(what));
        }
        for (int g = 0; g < gates; g++) {
            for (int what = 0; what <= 3; what++) {
                all.add(x.gate(g, what));
            }
        }
        for (int p = 0; p < persons; p++) {
            for (int what = 0; what <= 3; what++) {
                all.add(x.person(p, what));
            }
        }
        int logged = x.told(10);
        for (int i = 0; i < logged; i++) {
            all.add(x.logged(i));
        }
        return all;
    }

    /** What lies behind: THE SEED, what can be undone, THE IMAGES. It uses the object up. */
    static List<Integer> behind(KissGates x) {
        List<Integer> all = new ArrayList<>();
        all.add(x.seed(0));
        for (int i = 0; i < 22; i++) {
            all.add(x.undo());
            for (int what = 3; what <= 9; what++) {
                all.add(x.told(what));
            }
        }
        for (int i = 0; i < 2; i++) {
            all.add(x.goBack(i));
            all.add(x.seed(0));
            for (int what = 3; what <= 10; what++) {
                all.add(x.told(what));
            }
        }
        return all;
    }
}
