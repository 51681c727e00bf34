import java.util.List;

/** The ordinary sentences of the promises 12 to 31, in many states, one test for each. */
public final class SentencesPropertiesTest {
    private static final int[] DATES = {-1, 0, 1, 7, 50, 100, 250, 333, 500, 666, 800, 950, 999, 1000};

    private interface PenLaw {
        void holds(PenNursery nursery, List<Model.Pen> nest, int index);
    }

    private interface NestLaw {
        void holds(PenNursery nursery, int nest, List<Model.Pen> pens);
    }

    private SentencesPropertiesTest() {
    }

    public static void main(String[] args) {
        pens();
        exists();
        feather();
        date();
        nestOf();
        indexOf();
        parentOf();
        depth();
        rankOf();
        size();
        penAt();
        penByRank();
        penBySorting();
        countBefore();
        countBeforeByScan();
        looksBefore();
        levels();
        pensWith();
        ink();
        commonFeather();
        Check.end();
    }

    private static void ofEveryPen(PenLaw law) {
        Sample.everywhere((x, nests) -> {
            for (List<Model.Pen> nest : nests) {
                for (int index = 0; index < nest.size(); index++) {
                    law.holds(x, nest, index);
                }
            }
        });
    }

    private static void ofEveryNest(NestLaw law) {
        Sample.everywhere((x, nests) -> {
            for (int nest = 0; nest < 4; nest++) {
                law.holds(x, nest, nests.get(nest));
            }
        });
    }

    // ---- promises 12 to 20

    private static void pens() {
        Edge.promise(12, "Returns the number of pens.");
        Sample.everywhere((x, nests) -> Edge.due("pens", x.pens(), Sample.all(nests).size()));
    }

    private static void exists() {
        Edge.promise(13, "Returns whether there is a pen with a number.");
        Sample.everywhere((x, nests) -> {
            for (int i = -2; i < 90; i++) {
                int number = i;
                boolean there = Sample.all(nests).stream().anyMatch(pen -> pen.number == number);
                Edge.due("exists " + number, x.exists(number), there);
            }
        });
    }

    private static void feather() {
        Edge.promise(14, "Returns the feather of a pen.");
        ofEveryPen((x, nest, i) -> Edge.due("feather", x.feather(nest.get(i).number), nest.get(i).feather));
    }

    private static void date() {
        Edge.promise(15, "Returns the date of a pen.");
        ofEveryPen((x, nest, i) -> Edge.due("date", x.date(nest.get(i).number), nest.get(i).date));
    }

    private static void nestOf() {
        Edge.promise(16, "Returns the nest of a pen.");
        ofEveryNest((x, nest, pens) -> {
            for (Model.Pen pen : pens) {
                Edge.due("nestOf", x.nestOf(pen.number), nest);
            }
        });
    }

    private static void indexOf() {
        Edge.promise(17, "Returns the index of a pen in its nest.");
        ofEveryPen((x, nest, i) -> Edge.due("indexOf", x.indexOf(nest.get(i).number), i));
    }

    private static void parentOf() {
        Edge.promise(18, "Returns the pen at the parent of a pen.");
        ofEveryPen((x, nest, i) -> {
            int pen = nest.get(i).number;
            if (i == 0) {
                Edge.thrown("parentOf at the index 0", Nursery.ELEMENT, () -> x.parentOf(pen));
            } else {
                Edge.due("parentOf", x.parentOf(pen), nest.get((i - 1) / 2).number);
            }
        });
    }

    private static void depth() {
        Edge.promise(19, "Returns the number of parents between a pen and the index 0 of its nest,"
                + " the index 0 included.");
        ofEveryPen((x, nest, i) -> {
            int parents = 0;
            for (int at = i; at > 0; at = (at - 1) / 2) {
                parents++;
            }
            Edge.due("depth", x.depth(nest.get(i).number), parents);
        });
    }

    private static void rankOf() {
        Edge.promise(20, "Returns the number of pens.");
        ofEveryPen((x, nest, i) -> {
            Model.Pen pen = nest.get(i);
            long sharper = nest.stream().filter(other -> Model.SHARPER.compare(other, pen) < 0).count();
            Edge.due("rankOf", x.rankOf(pen.number), (int) sharper);
        });
    }

    // ---- promises 21 to 28

    private static void size() {
        Edge.promise(21, "Returns the number of pens of a nest.");
        ofEveryNest((x, nest, pens) -> Edge.due("size", x.size(nest), pens.size()));
    }

    private static void penAt() {
        Edge.promise(22, "Returns the pen at an index of a nest.");
        ofEveryNest((x, nest, pens) -> {
            for (int i = 0; i < pens.size(); i++) {
                Edge.due("penAt", x.penAt(nest, i), pens.get(i).number);
            }
        });
    }

    private static void penByRank() {
        Edge.promise(23, "Returns the pen at a rank when the pens of a nest are sorted with the sharpest one first,"
                + " by taking pens out of a copy of the heap.");
        ofEveryNest((x, nest, pens) -> {
            long exchanges = x.exchanges();
            List<Model.Pen> sorted = pens.stream().sorted(Model.SHARPER).toList();
            for (int rank = 0; rank < sorted.size(); rank++) {
                Edge.due("penByRank", x.penByRank(nest, rank), sorted.get(rank).number);
            }
            Edge.due("the heap itself is as before", x.exchanges(), exchanges);
            Edge.due("and as long", x.size(nest), pens.size());
        });
    }

    private static void penBySorting() {
        Edge.promise(24, "Returns the same pen, by sorting the pens of the nest.");
        ofEveryNest((x, nest, pens) -> {
            for (int rank = 0; rank < pens.size(); rank++) {
                Edge.due("penBySorting", x.penBySorting(nest, rank), x.penByRank(nest, rank));
            }
            for (int i = 0; i < pens.size(); i++) {
                Edge.due("the nest itself is not sorted", x.penAt(nest, i), pens.get(i).number);
            }
        });
    }

    private static void countBefore() {
        Edge.promise(25, "Returns the number of pens of a nest whose dates are less than a number, by a recursion from"
                + " the index 0 that does not look below a pen whose date is not less.");
        ofEveryNest((x, nest, pens) -> {
            for (int date : DATES) {
                long less = pens.stream().filter(pen -> pen.date < date).count();
                Edge.due("countBefore " + date, x.countBefore(nest, date), (int) less);
            }
        });
    }

    private static void countBeforeByScan() {
        Edge.promise(26, "Returns the same number, by looking at all pens.");
        ofEveryNest((x, nest, pens) -> {
            for (int date : DATES) {
                Edge.due("countBeforeByScan " + date, x.countBeforeByScan(nest, date), x.countBefore(nest, date));
            }
        });
    }

    private static void looksBefore() {
        Edge.promise(27, "Returns the number of pens that were looked at by countBefore for these arguments, those whose"
                + " dates are not less included.");
        ofEveryNest((x, nest, pens) -> {
            for (int date : DATES) {
                Edge.due("looksBefore " + date, x.looksBefore(nest, date), looks(pens, 0, date));
            }
        });
    }

    private static int looks(List<Model.Pen> pens, int index, int date) {
        if (index >= pens.size()) {
            return 0;
        }
        if (pens.get(index).date >= date) {
            return 1;
        }
        return 1 + looks(pens, 2 * index + 1, date) + looks(pens, 2 * index + 2, date);
    }

    private static void levels() {
        Edge.promise(28, "Returns the number of levels of a nest: 1 plus the greatest depth of its pens.");
        ofEveryNest((x, nest, pens) -> {
            int levels = 0;
            for (Model.Pen pen : pens) {
                levels = Math.max(levels, 1 + x.depth(pen.number));
            }
            Edge.due("levels", x.levels(nest), levels);
        });
    }

    // ---- promises 29 to 31

    private static void pensWith() {
        Edge.promise(29, "Returns the number of pens with a feather.");
        Sample.everywhere((x, nests) -> {
            for (char feather = 'a'; feather <= 'h'; feather++) {
                Edge.due("pensWith " + feather, x.pensWith(feather), with(nests, feather));
            }
        });
    }

    private static int with(List<List<Model.Pen>> nests, char feather) {
        return (int) Sample.all(nests).stream().filter(pen -> pen.feather == feather).count();
    }

    private static void ink() {
        Edge.promise(30, "Returns the stock of ink for a feather.");
        Sample.everywhere((x, nests) -> {
            String line = "," + Nursery.ink(x) + ",";
            for (char feather = 'a'; feather <= 'h'; feather++) {
                int stock = x.ink(feather);
                boolean written = line.contains("," + feather + stock + ",");
                Edge.due("ink " + feather + stock + " in " + line, written, stock > 0);
                Edge.due("ink " + feather, stock > 0, line.indexOf(feather) > 0);
            }
        });
    }

    private static void commonFeather() {
        Edge.promise(31, "Returns the feather of the most pens, and of several the first one in the alphabet.");
        Sample.everywhere((x, nests) -> {
            char common = 'a';
            for (char feather = 'b'; feather <= 'h'; feather++) {
                common = with(nests, feather) > with(nests, common) ? feather : common;
            }
            if (x.pens() > 0) {
                Edge.due("commonFeather", x.commonFeather(), common);
            } else {
                Edge.thrown("commonFeather", Nursery.ELEMENT, x::commonFeather);
            }
        });
    }
}
