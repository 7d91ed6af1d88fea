/** The calls that README.md shows, with the answers that it tells. */
public final class ReadmeTest {
    public static void main(String[] args) {
        NewSilver x = new NewSilver();
        struck(x);
        told(x);
        Check.end();
    }

    private static void struck(NewSilver x) {
        int shilling = x.sort(80, 92, 925, 12);
        Check.due("sort", shilling, 0);
        int lot = x.lot(0, shilling, 10, 860, 0, 0);
        Check.due("lot", lot, 0);
        int comes = x.send(lot, 1);
        Check.due("send", comes, 5);
        Check.due("melt on the road", x.melt(lot), NewSilver.STATE);
        Check.due("today", x.today(comes), 0);
        Check.due("melt", x.melt(lot), 1);
        Check.due("refine", x.refine(1), 0);
        int fresh = x.strike(1, shilling, 9);
        Check.due("strike", fresh, 1);
        Check.due("mint", x.mint(1, 0), 32);
        Check.due("all", x.all(), 795500);
        Check.due("bring", x.bring(fresh, 0), 10);
    }

    private static void told(NewSilver x) {
        Check.due("feed", x.feed(0x30206973203131L, 7), 7);
        int order = x.order();
        Check.due("order", order, 0);
        Check.due("tell", x.tell(order, 0), 1);
        Check.due("today", x.today(10), 5);
        Check.due("pass", x.pass(1, 0, 10), 99);
        Check.due("pay", x.pay(0, 90), 1);
        Check.due("paid", x.paid(0), 1);
        Check.due("credit", x.credit(0), 9);
        Check.due("feed", x.feed(0x30206973203131L, 6), 6);
        Check.due("order with a fault", x.order(), -10);
    }
}
