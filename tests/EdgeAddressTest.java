/** Promise 5 resolve, and what Part II says of ADDRESSES: the longest, the shortest and one more of each part. */
public final class EdgeAddressTest {
    private static final String TWELVE = "abcdefghijkl";
    private static final String FORTY = "q".repeat(40);

    public static void main(String[] args) throws ReflectiveOperationException {
        House.run(EdgeAddressTest.class);
    }

    /** What a REFERENCE gives against a base, then what is due, row by row. */
    private static void rows(String base, String... pairs) {
        for (int i = 0; i + 1 < pairs.length; i += 2) {
            House h = new House();
            h.visit(base);
            House.due(pairs[i] + " against " + base, h.out(h.resolve(pairs[i])), pairs[i + 1]);
        }
    }

    // ---- promise 5

    static void howManyBytes() {
        House.says(5, "The text, a REFERENCE against this page's ADDRESS, is written to THE OUT as an ADDRESS: how many bytes;");
        House h = new House();
        House.due("the shortest one", h.resolve("//a"), 4);
        House.due("written", h.out(4), "//a/");
        String longest = "//abcdefgh" + ("/" + TWELVE).repeat(6) + "?" + FORTY + "#abcdefgh";
        House.due("the longest one", h.resolve(longest), 138);
        House.due("written too", h.out(138), longest);
        House.due("this page's ADDRESS stays", h.address(), "//home/");
        House.due("nothing is asked for it", h.it.count(5), 0);
    }

    static void noAddress() {
        House.says(5, "NONE, and THE OUT stays, if it is NO ADDRESS.");
        House h = new House();
        h.it.name(0);
        House.due("NO ADDRESS", h.resolve("//"), -1);
        House.due("THE OUT", h.out(3), "div");
    }

    static void wrongForBytesAlone() {
        House.says(5, "WRONG for bytes alone.");
        House h = new House();
        House.due("no byte of texts", h.resolve("a\u0001"), -1001);
        House.due("bytes of texts, but of no ADDRESS", h.resolve("a b"), -1);
        House.due("byte 10", h.resolve("a\n"), -1);
    }

    // ---- Part II

    static void partsOfAnAddress() {
        House.says(5, "An ADDRESS has a SITE (a NAME), a PATH of 1 to 6 SEGMENTS, perhaps a QUERY, perhaps a MARK.");
        rows("//home/",
                "//a/", "//a/",
                "//abcdefgh/", "//abcdefgh/",
                "//abcdefghi/", "-1",
                "///", "-1",
                "//9a/", "-1",
                "//a/1/2/3/4/5/6", "//a/1/2/3/4/5/6",
                "//a/1/2/3/4/5/6/7", "-1",
                "//a/1/2/3/4/5/", "//a/1/2/3/4/5/",
                "//a/1/2/3/4/5/6/", "-1",
                "//a//////", "//a//////",
                "//a///////", "-1");
    }

    static void howItIsWritten() {
        House.says(5, "Written: //, SITE, for each SEGMENT / and it, perhaps ? and the QUERY, perhaps # and the MARK.");
        rows("//home/",
                "//a/b?c#d", "//a/b?c#d",
                "//a/b?c", "//a/b?c",
                "//a/b#d", "//a/b#d",
                "//a/b#d?c", "-1",
                "//a/b??c", "-1",
                "//a/b##d", "-1",
                "//a/b#d#e", "-1");
    }

    static void segments() {
        House.says(5, "A SEGMENT is 0 to 12 small letters, digits, . - _ ;");
        rows("//home/",
                "/", "//home/",
                "/" + TWELVE, "//home/" + TWELVE,
                "/" + TWELVE + "m", "-1",
                TWELVE, "//home/" + TWELVE,
                TWELVE + "m", "-1",
                "/.-_", "//home/.-_",
                "/az09", "//home/az09",
                "/............", "//home/............",
                "/.............", "-1");
        for (char c : "`{:@[,^A Z%=&+~!*\\'\n".toCharArray()) {
            rows("//home/", "/a" + c, "-1");
        }
    }

    static void queries() {
        House.says(5, "a QUERY 0 to 40 of these, = & +;");
        rows("//home/",
                "/?", "//home/?",
                "/?" + FORTY, "//home/?" + FORTY,
                "/?" + FORTY + "q", "-1",
                "?" + FORTY + "#m", "//home/?" + FORTY + "#m",
                "?" + FORTY + "q#m", "-1",
                "?=&+.-_az09", "//home/?=&+.-_az09");
        for (char c : "`{:@[,^AZ% *</>\"?\n".toCharArray()) {
            rows("//home/", "?a" + c, "-1");
        }
    }

    static void marks() {
        House.says(5, "a MARK a NAME.");
        rows("//home/",
                "#m", "//home/#m",
                "#abcdefgh", "//home/#abcdefgh",
                "#abcdefghi", "-1",
                "#", "-1",
                "#9", "-1",
                "#M", "-1",
                "#m-", "-1",
                "a#", "-1",
                "?#", "-1");
    }

    static void withSite() {
        House.says(5, "A REFERENCE is read against a base ADDRESS, being: // and all else as above (without any /: one SEGMENT, empty);");
        rows("//shop/a/b?x=1#k",
                "//far", "//far/",
                "//far?y", "//far/?y",
                "//far#m", "//far/#m",
                "//far?y#m", "//far/?y#m",
                "//far/c", "//far/c",
                "//shop", "//shop/",
                "//", "-1",
                "//?y", "-1",
                "//#m", "-1");
    }

    static void withPath() {
        House.says(5, "or a PATH with / ahead of each SEGMENT (of the base's SITE; what begins with // is none);");
        rows("//shop/a/b?x=1#k",
                "/", "//shop/",
                "/c", "//shop/c",
                "/c/", "//shop/c/",
                "/c//d", "//shop/c//d",
                "/1/2/3/4/5/6", "//shop/1/2/3/4/5/6",
                "/1/2/3/4/5/6/7", "-1",
                "///c", "-1",
                "//C", "-1",
                "//9/c", "-1");
    }

    static void withSegments() {
        House.says(5, "or SEGMENTS with / between, one at least and the first one not empty (in place of the base's last one);");
        rows("//shop/a/b?x=1#k",
                "c", "//shop/a/c",
                "c/", "//shop/a/c/",
                "c//d", "//shop/a/c//d",
                "b", "//shop/a/b",
                "c?y#m", "//shop/a/c?y#m",
                "c/d/e/f/g", "//shop/a/c/d/e/f/g",
                "c/d/e/f/g/h", "-1");
        rows("//shop/a/", "c", "//shop/a/c");
        rows("//shop/", "c", "//shop/c");
        rows("//shop/1/2/3/4/5/6", "7", "//shop/1/2/3/4/5/7", "7/8", "-1", "7/", "-1", "", "//shop/1/2/3/4/5/6");
    }

    static void withoutAnyOfThese() {
        House.says(5, "or nothing of these, then QUERY and MARK as above: without a QUERY the base's, and its PATH");
        rows("//shop/a/b?x=1#k",
                "?y", "//shop/a/b?y",
                "?", "//shop/a/b?",
                "#m", "//shop/a/b?x=1#m",
                "?#m", "//shop/a/b?#m",
                "?y#m", "//shop/a/b?y#m");
        rows("//shop/a/b", "#m", "//shop/a/b#m");
        rows("//shop/a/b?", "#m", "//shop/a/b?#m");
    }

    static void nothingAtAll() {
        House.says(5, "(nothing at all is the base without MARK).");
        rows("//shop/a/b?x=1#k", "", "//shop/a/b?x=1");
        rows("//shop/a/b#k", "", "//shop/a/b");
        rows("//home/", "", "//home/");
    }

    static void dotsGo() {
        House.says(5, "Then SEGMENTS, from the first to the last: . goes, .. goes with the one ahead of it, if there is one;");
        rows("//shop/a/b",
                "/./c", "//shop/c",
                "/c/./d", "//shop/c/d",
                "./c", "//shop/a/c",
                "/c/../d", "//shop/d",
                "/c/e/../../d", "//shop/d",
                "/../d", "//shop/d",
                "/../../d", "//shop/d",
                "/c/../../d/e", "//shop/d/e",
                "../c", "//shop/c",
                "../../../c", "//shop/c",
                "/c//../d", "//shop/c/d",
                "/.../c", "//shop/.../c",
                "//far/../c", "//far/c",
                "/.a/..b/c", "//shop/.a/..b/c");
    }

    static void theLastOneWent() {
        House.says(5, "if the last one went so, an empty one comes in its place;");
        rows("//shop/a/b",
                "/c/.", "//shop/c/",
                "/c/d/..", "//shop/c/",
                "/c/..", "//shop/",
                "c/..", "//shop/a/",
                ".", "//shop/a/",
                "..", "//shop/",
                "/c/../", "//shop/",
                "/c/d/../.", "//shop/c/",
                "/c//..", "//shop/c/");
    }

    static void noneIsLeft() {
        House.says(5, "of none one that is empty.");
        rows("//home/", ".", "//home/", "..", "//home/", "/.", "//home/", "/..", "//home/", "../..", "//home/", "//far/..", "//far/",
                "./.", "//home/", "/./.././..", "//home/");
    }

    static void moreThanSix() {
        House.says(5, "It is NO ADDRESS if it can't be read so, or has more than 6 SEGMENTS behind all that.");
        rows("//shop/",
                "/1/2/3/4/5/6", "//shop/1/2/3/4/5/6",
                "/1/2/3/4/5/6/7", "-1",
                "/1/2/3/4/5/6/..", "//shop/1/2/3/4/5/",
                "/1/2/3/4/5/6/.", "-1",
                "/1/2/3/4/5/6/7/..", "-1",
                "/1/2/3/4/5/6/7/../..", "//shop/1/2/3/4/5/",
                "/1/2/3/4/5/6/7/../../8", "//shop/1/2/3/4/5/8",
                "/1/2/3/./4/./5/6", "//shop/1/2/3/4/5/6",
                "1/../".repeat(390) + "2", "//shop/2",
                "/a/" + TWELVE + "m/..", "-1",
                "/A/..", "-1");
    }

    static void twoAddresses() {
        House.says(6, "A QUERY of no bytes and none make two ADDRESSES;");
        House h = new House();
        h.server("//home/a\nplain");
        House.due("another one", h.server("//home/a?\nasked"), 2);
        h.visit("//home/a");
        House.due("the one", h.name(1), "plain");
        h.visit("//home/a?");
        House.due("the other", h.name(1), "asked");
    }
}
