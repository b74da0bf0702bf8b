/** Promise 5: resolve, and how a REFERENCE is read. */
public final class AddressTest {
    public static void main(String[] args) {
        against("//home/", new String[][] {
            {"", "//home/"},
            {"a", "//home/a"},
            {"/a/b", "//home/a/b"},
            {"//shop", "//shop/"},
            {"//shop/", "//shop/"},
            {"//shop?x=1", "//shop/?x=1"},
            {"//shop#m", "//shop/#m"},
            {"//shop/a/b?q=1&r=a+b#m2", "//shop/a/b?q=1&r=a+b#m2"},
            {"?", "//home/?"},
            {"#m", "//home/#m"},
            {"..", "//home/"},
            {"../../a", "//home/a"},
            {"/..", "//home/"},
            {".", "//home/"},
        });
        against("//shop/a/b/c?x=1#k", new String[][] {
            {"", "//shop/a/b/c?x=1"},
            {"#m", "//shop/a/b/c?x=1#m"},
            {"?y=2", "//shop/a/b/c?y=2"},
            {"?", "//shop/a/b/c?"},
            {"?#m", "//shop/a/b/c?#m"},
            {"d", "//shop/a/b/d"},
            {"d/", "//shop/a/b/d/"},
            {"d/e?z", "//shop/a/b/d/e?z"},
            {"/d", "//shop/d"},
            {"/", "//shop/"},
            {"..", "//shop/a/"},
            {"../", "//shop/a/"},
            {"../d", "//shop/a/d"},
            {"../..", "//shop/"},
            {"../../../../d", "//shop/d"},
            {".", "//shop/a/b/"},
            {"./d", "//shop/a/b/d"},
            {"d/..", "//shop/a/b/"},
            {"d/./e", "//shop/a/b/d/e"},
            {"d/../e/..", "//shop/a/b/"},
            {"/a//b", "//shop/a//b"},
            {"/a//..", "//shop/a/"},
            {"...", "//shop/a/b/..."},
            {"a.b-c_d", "//shop/a/b/a.b-c_d"},
            {"/a/b/c/d/e/f", "//shop/a/b/c/d/e/f"},
            {"/a/b/c/d/e/f/..", "//shop/a/b/c/d/e/"},
            {"/1/2/3/4/5/6/7/../../8", "//shop/1/2/3/4/5/8"},
            {"/a/b/c/d/e/f/.", "-1"},
            {"/a/b/c/d/e/f/g", "-1"},
            {"d/e/f/g", "//shop/a/b/d/e/f/g"},
            {"d/e/f/g/h", "-1"},
            {"abcdefghijkl", "//shop/a/b/abcdefghijkl"},
            {"abcdefghijklm", "-1"},
            {"abcdefghijklm/..", "-1"},
            {"A", "-1"},
            {"a b", "-1"},
            {"a=b", "-1"},
            {"//", "-1"},
            {"///a", "-1"},
            {"//9/a", "-1"},
            {"//Shop/a", "-1"},
            {"//abcdefgh/", "//abcdefgh/"},
            {"//abcdefghi/", "-1"},
            {"?a?b", "-1"},
            {"?a/b", "-1"},
            {"#", "-1"},
            {"#9", "-1"},
            {"#m#m", "-1"},
            {"#abcdefgh", "//shop/a/b/c?x=1#abcdefgh"},
            {"#abcdefghi", "-1"},
            {"?" + "a".repeat(40), "//shop/a/b/c?" + "a".repeat(40)},
            {"?" + "a".repeat(41), "-1"},
            {"d/e/f?" + "a".repeat(40) + "#m", "//shop/a/b/d/e/f?" + "a".repeat(40) + "#m"},
            {"d/e/f?" + "a".repeat(41), "-1"},
            {"a/../".repeat(300) + "d", "//shop/a/b/d"},
        });
        House h = new House();
        h.visit("//shop/a/b/c?x=1#k");
        House.due("a new text", h.resolve("d"), 12);
        House.due("NO ADDRESS", h.resolve("//"), -1);
        House.due("THE OUT stays", h.out(12), "//shop/a/b/d");
        House.due("the page stays", h.address(), "//shop/a/b/c?x=1#k");
        House.finish();
    }

    private static void against(String base, String[][] pairs) {
        for (String[] pair : pairs) {
            House h = new House();
            if (!base.equals("//home/")) {
                h.visit(base);
            }
            House.due("base", h.address(), base);
            House.due("against " + base + ": " + pair[0], h.out(h.resolve(pair[0])), pair[1]);
        }
    }
}
