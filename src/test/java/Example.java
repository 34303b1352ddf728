/** Papers in which every call has something to answer, and all that they answer. */
final class Example {
    /** The page of the example that has no boxes. */
    static final int BARE_PAGE = 4;
    static final int PAGES = 6;

    private Example() {
    }

    /**
     * Pages 0, 1 and 5 are told of kinds 0, 1 and 1; 0 is sorted as 0 and 5 as 1, 1 and 2 are for
     * a person, 3 and 4 are unknown.
     */
    static PaperKinds papers() {
        PaperKinds papers = new PaperKinds();
        papers.bounds(30, 10, 50);
        Checks.pageOfKind(papers, 0, 10, 10, 5, 20, 20, 6);
        Checks.pageOfKind(papers, 1, 10, 13, 5, 20, 23, 6);
        Checks.pageOf(papers, 11, 11, 5, 20, 22, 6);
        Checks.pageOf(papers, 50, 5, 80, 5, 50, 81, 60, 60, 82);
        papers.page();
        Checks.pageOfKind(papers, 1, 10, 13, 5, 20, 23, 6, 40, 40, 7);
        return papers;
    }

    /** Some 250 calls: with those that make the example, within the 512 of an object. */
    static String answers(PaperKinds papers) {
        StringBuilder all = new StringBuilder();
        for (int what = 0; what <= 8; what++) {
            add(all, papers.about(what));
        }
        add(all, papers.look());
        add(all, papers.heaps());
        for (int kind = 0; kind < 5; kind++) {
            addKind(all, papers, kind);
        }
        int pages = papers.about(0);
        for (int page = 0; page < pages; page++) {
            add(all, papers.about(20 + page));
            add(all, papers.told(page));
            add(all, papers.sorted(page));
            add(all, papers.heap(page));
            for (int kind = 0; kind < 5; kind++) {
                add(all, papers.touch(page, kind));
                addLaying(all, papers, page, kind);
            }
        }
        return all.toString();
    }

    private static void add(StringBuilder all, int answer) {
        all.append(answer).append(' ');
    }

    private static void addKind(StringBuilder all, PaperKinds papers, int kind) {
        add(all, papers.kind(kind, 0));
        add(all, papers.kind(kind, 1));
        int spots = papers.kind(kind, 1);
        for (int spot = 0; spot < spots; spot++) {
            for (int what = 0; what <= 3; what++) {
                add(all, papers.spot(kind, spot, what));
            }
        }
        for (int other = 0; other < kind; other++) {
            add(all, papers.versions(kind, other, 0));
            add(all, papers.versions(kind, other, 1));
        }
    }

    private static void addLaying(StringBuilder all, PaperKinds papers, int page, int kind) {
        add(all, papers.lay(page, kind, 0));
        if (papers.kind(kind, 0) > 0) {
            add(all, papers.moved(page, kind, false));
            add(all, papers.moved(page, kind, true));
            int boxes = papers.about(20 + page);
            for (int box = 0; box < boxes; box++) {
                add(all, papers.lay(page, kind, 10 + box));
            }
        }
    }
}
