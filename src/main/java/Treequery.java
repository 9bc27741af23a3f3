import java.util.Arrays;

/**
 * A document store: a tree whose nodes keep their numbers, with paths, collected updates, a schema, indexes,
 * views, versions and readers from whom parts are hidden. What each call does is told by DOC.md.
 *
 * Inside, a set of nodes is a long whose bits are places in the order of the document (60 nodes fit), so that
 * no call but keep() and the first distance() makes an object.
 */
public final class Treequery {
    public static final int NONE = -1;
    public static final int ELEMENT = 0, TEXT = 1, ATTRIBUTE = 2;
    public static final int SELF = 0, CHILD = 1, PARENT = 2, DESCENDANT = 3, DESCENDANT_OR_SELF = 4, ANCESTOR = 5, ANCESTOR_OR_SELF = 6, FOLLOWING = 7, PRECEDING = 8, FOLLOWING_SIBLING = 9, PRECEDING_SIBLING = 10, ATTRIBUTES = 11, REPEAT = 12;
    public static final int ANY = 8, TEXTS = 9, SPACE = 10;
    public static final int EQUAL = 0, LESS = 1, GREATER = 2;
    public static final int WALK = 0, INDEX = 1, STREAM = 2;
    public static final int BARRED = 0, ALLOWED = 1, NEEDED = 2;

    private static final int MOST_NODES = 60;
    private static final int MOST_UPDATES = 20;
    private static final int MOST_PATHS = 20;
    private static final int MOST_STEPS = 5;
    private static final int MOST_CONDITIONS = 2;
    private static final int MOST_VIEWS = 5;
    private static final int MOST_VERSIONS = 6;
    private static final int MOST_HIDDEN = 3;
    private static final int NAMES = 8;
    private static final int SPACES = 4;
    private static final int TYPES = 6;
    private static final int STATES = 4;
    private static final int ALL_TESTS = SPACE + SPACES;
    private static final int HIGHEST_VALUE = 999;
    private static final int HIGHEST_PLACE = 99;
    private static final int ROOT = 0;
    private static final int GAP = 16;

    private final Tree tree = new Tree();
    private final Tree spare = new Tree();
    private final Updates updates = new Updates();
    private final Paths paths = new Paths();
    private final Finder all = new Finder(tree, paths);
    private final Finder reader = new Finder(tree, paths);
    private final Schema schema = new Schema();
    private final Tree[] versions = new Tree[MOST_VERSIONS];
    private final Row viewPaths = new Row(MOST_VIEWS, NONE);
    private final Row viewChanges = new Row(MOST_VIEWS, 0);
    private final Sets viewSets = new Sets(MOST_VIEWS);
    private Edits edits = null;
    private int versionCount = 0;
    private int viewCount = 0;
    private int renumberings = 0;
    private long hiddenPaths = 0L;
    private long indexedNames = 0L;
    private boolean isReader = false;
    private boolean isReaderStale = true;

    public Treequery() {
        tree.make(ELEMENT, 0, NONE);
        tree.layOut();
        tree.numberAnew();
        all.start(tree.layout.everything());
    }

    // ---- updates; each returns how many the list has then

    public int insertElement(int parent, int place, int name) throws IndexOutOfBoundsException, IllegalArgumentException, IllegalStateException {
        needPlaceIn(parent, place);
        needRange(name, 0, NAMES - 1);
        needElement(parent);
        needRoom();
        return updates.addInsert(ELEMENT, parent, place, name, NONE);
    }

    public int insertText(int parent, int place, int value) throws IndexOutOfBoundsException, IllegalArgumentException, IllegalStateException {
        needPlaceIn(parent, place);
        needRange(value, 0, HIGHEST_VALUE);
        needElement(parent);
        needRoom();
        return updates.addInsert(TEXT, parent, place, NONE, value);
    }

    public int insertAttribute(int parent, int name, int value) throws IndexOutOfBoundsException, IllegalArgumentException, IllegalStateException {
        needNode(parent);
        needRange(name, 0, NAMES - 1);
        needRange(value, 0, HIGHEST_VALUE);
        needElement(parent);
        needRoom();
        return updates.addInsert(ATTRIBUTE, parent, NONE, name, value);
    }

    public int remove(int node) throws IndexOutOfBoundsException, IllegalStateException {
        needNode(node);
        if (node == ROOT) {
            throw new IllegalStateException("the root stays");
        }
        needRoom();
        return updates.addChange(Updates.REMOVAL, node, NONE);
    }

    public int rename(int node, int name) throws IndexOutOfBoundsException, IllegalArgumentException, IllegalStateException {
        needNode(node);
        needRange(name, 0, NAMES - 1);
        if (tree.kinds.get(node) == TEXT) {
            throw new IllegalStateException("a text has no name");
        }
        needRoom();
        return updates.addChange(Updates.RENAMING, node, name);
    }

    public int setValue(int node, int value) throws IndexOutOfBoundsException, IllegalArgumentException, IllegalStateException {
        needNode(node);
        needRange(value, 0, HIGHEST_VALUE);
        if (tree.kinds.get(node) == ELEMENT) {
            throw new IllegalStateException("an element has no value of its own");
        }
        needRoom();
        return updates.addChange(Updates.VALUING, node, value);
    }

    public int move(int node, int parent, int place) throws IndexOutOfBoundsException, IllegalStateException {
        needNode(node);
        needPlaceIn(parent, place);
        if (node == ROOT || tree.kinds.get(node) == ATTRIBUTE) {
            throw new IllegalStateException("neither the root nor an attribute is moved");
        }
        needElement(parent);
        needRoom();
        return updates.addMove(node, parent, place);
    }

    public int declare(int node, int space) throws IndexOutOfBoundsException, IllegalArgumentException, IllegalStateException {
        needNode(node);
        needRange(space, NONE, SPACES - 1);
        needElement(node);
        needRoom();
        return updates.addChange(Updates.DECLARING, node, space);
    }

    public int apply() throws IllegalStateException {
        if (!updates.canBeDone(tree)) {
            throw new IllegalStateException("the updates do not go together or with the tree");
        }
        updates.build(tree, spare);
        if (spare.isTangled() || spare.hasTwins()) {
            throw new IllegalStateException("the updates make no tree");
        }
        if (schema.isStrict() && !schema.admits(spare)) {
            throw new IllegalStateException("the updates make no valid tree");
        }
        if (!spare.numberFresh(updates.fresh())) {
            spare.numberAnew();
            renumberings++;
        }
        settle();
        updates.empty();
        return tree.layout.count();
    }

    public int forget() {
        return updates.empty();
    }

    // ---- the tree

    public int made() {
        return tree.madeCount();
    }

    public int nodes() {
        return tree.layout.count();
    }

    public boolean isThere(int node) {
        return tree.layout.holds(node);
    }

    public int kind(int node) throws IndexOutOfBoundsException {
        needNode(node);
        return tree.kinds.get(node);
    }

    public int name(int node) throws IndexOutOfBoundsException {
        needNode(node);
        return tree.names.get(node);
    }

    public int value(int node) throws IndexOutOfBoundsException {
        needNode(node);
        return tree.valueAt(tree.layout.spotOf(node), tree.layout.everything());
    }

    public int parent(int node) throws IndexOutOfBoundsException {
        needNode(node);
        return tree.parents.get(node);
    }

    public int child(int node, int place) throws IndexOutOfBoundsException {
        needNode(node);
        needNotNegative(place);
        return tree.layout.nodeOfSet(tree.layout.children(tree.layout.spotOf(node)), place);
    }

    public int space(int node) throws IndexOutOfBoundsException {
        needNode(node);
        return tree.layout.spaceAt(tree.layout.spotOf(node));
    }

    public int number(int node) throws IndexOutOfBoundsException {
        needNode(node);
        return tree.numbers.get(node);
    }

    public int numbered() {
        return renumberings;
    }

    // ---- paths

    public int path() throws IllegalStateException {
        if (paths.count() >= MOST_PATHS) {
            throw new IllegalStateException("there are 20 paths");
        }
        return paths.addPath();
    }

    public int step(int path, int axis, int test, int by) throws IndexOutOfBoundsException, IllegalArgumentException, IllegalStateException {
        needPath(path);
        if (axis == REPEAT) {
            needLower(path, by);
        }
        needRange(axis, SELF, REPEAT);
        needRange(test, 0, ALL_TESTS - 1);
        if (axis != REPEAT && by != NONE) {
            throw new IllegalArgumentException("only REPEAT has a path");
        }
        needOpenPath(path);
        if (paths.stepsOf(path) >= MOST_STEPS) {
            throw new IllegalStateException("the path has 5 steps");
        }
        noteChangeOf(path);
        return paths.addStep(path, axis, test, by);
    }

    public int place(int path, int comparison, int number) throws IndexOutOfBoundsException, IllegalArgumentException, IllegalStateException {
        needPath(path);
        needRange(comparison, EQUAL, GREATER);
        needRange(number, 0, HIGHEST_PLACE);
        needOpenStep(path);
        noteChangeOf(path);
        return paths.addCondition(path, Paths.PLACED, NONE, comparison, number);
    }

    public int last(int path) throws IndexOutOfBoundsException, IllegalStateException {
        needPath(path);
        needOpenStep(path);
        noteChangeOf(path);
        return paths.addCondition(path, Paths.FINAL, NONE, NONE, NONE);
    }

    public int has(int path, int other, boolean isHas) throws IndexOutOfBoundsException, IllegalStateException {
        needPath(path);
        needLower(path, other);
        needOpenStep(path);
        noteChangeOf(path);
        return paths.addCondition(path, isHas ? Paths.HAVING : Paths.LACKING, other, NONE, NONE);
    }

    public int worth(int path, int other, int comparison, int number) throws IndexOutOfBoundsException, IllegalArgumentException, IllegalStateException {
        needPath(path);
        needLower(path, other);
        needRange(comparison, EQUAL, GREATER);
        needRange(number, 0, HIGHEST_VALUE);
        needOpenStep(path);
        noteChangeOf(path);
        return paths.addCondition(path, Paths.WORTHY, other, comparison, number);
    }

    public int paths() {
        return paths.count();
    }

    public boolean readAsReader(boolean on) {
        boolean was = isReader;
        isReader = on;
        return was;
    }

    public int found(int path, int from) throws IndexOutOfBoundsException {
        Finder finder = isReader ? refreshedReader() : all;
        needPath(path);
        needStart(finder, from);
        finder.prepare(path);
        return Long.bitCount(finder.foundFrom(path, tree.layout.spotOf(from)));
    }

    public int foundAnew(int path, int from) throws IndexOutOfBoundsException {
        Finder finder = isReader ? refreshedReader() : all;
        needPath(path);
        needStart(finder, from);
        finder.prepare(path);
        long set = finder.foundFrom(path, tree.layout.spotOf(from));
        int count = 0;
        for (int spot = 0; spot < tree.layout.count(); spot++) {
            if (Bits.holds(set, spot)) {
                count++;
            }
        }
        return count;
    }

    public int foundAt(int path, int place) throws IndexOutOfBoundsException {
        Finder finder = isReader ? refreshedReader() : all;
        needPath(path);
        finder.prepare(path);
        long set = finder.foundFrom(path, ROOT);
        needPlaceOf(set, place);
        return tree.layout.nodeOfSet(set, place);
    }

    public int ordered(int path, int place) throws IndexOutOfBoundsException {
        Finder finder = isReader ? refreshedReader() : all;
        needPath(path);
        finder.prepare(path);
        needPlaceOf(finder.foundFrom(path, ROOT), place);
        return tree.layout.nodeAt(finder.orderedSpot(path, place));
    }

    public int groups(int path) throws IndexOutOfBoundsException {
        Finder finder = isReader ? refreshedReader() : all;
        needPath(path);
        finder.prepare(path);
        return finder.countValues(path);
    }

    // ---- schemas

    public int nameType(int type, int name) throws IndexOutOfBoundsException, IllegalArgumentException, IllegalStateException {
        needIndex(type, TYPES);
        needRange(name, NONE, NAMES - 1);
        needLooseSchema();
        return schema.giveName(type, name);
    }

    public boolean arc(int type, int from, int by, int to) throws IndexOutOfBoundsException, IllegalStateException {
        needIndex(type, TYPES);
        needIndex(from, STATES);
        needIndex(by, TYPES);
        needIndex(to, STATES);
        needLooseSchema();
        return schema.toggleArc(type, from, by, to);
    }

    public boolean setFinal(int type, int state, boolean isFinal) throws IndexOutOfBoundsException, IllegalStateException {
        needIndex(type, TYPES);
        needIndex(state, STATES);
        needLooseSchema();
        return schema.markFinal(type, state, isFinal);
    }

    public boolean allowTexts(int type, boolean on) throws IndexOutOfBoundsException, IllegalStateException {
        needIndex(type, TYPES);
        needLooseSchema();
        return schema.markTexts(type, on);
    }

    public int attribute(int type, int name, int what) throws IndexOutOfBoundsException, IllegalArgumentException, IllegalStateException {
        needIndex(type, TYPES);
        needRange(name, 0, NAMES - 1);
        needRange(what, BARRED, NEEDED);
        needLooseSchema();
        return schema.giveRule(type, name, what);
    }

    public boolean setStrict(boolean on) throws IllegalStateException {
        if (on && !schema.admits(tree)) {
            throw new IllegalStateException("the tree is not valid");
        }
        return schema.markStrict(on);
    }

    public boolean isValid() {
        return schema.admits(tree);
    }

    public int types(int node) throws IndexOutOfBoundsException {
        needNode(node);
        return schema.typesOf(tree, tree.layout.spotOf(node));
    }

    public int infer(int path) throws IndexOutOfBoundsException {
        needPath(path);
        return schema.tell(paths, path);
    }

    // ---- indexes, plans, views

    public boolean index(int name) throws IllegalArgumentException {
        needRange(name, 0, NAMES - 1);
        indexedNames ^= Bits.one(name);
        return Bits.holds(indexedNames, name);
    }

    public int plan(int path) throws IndexOutOfBoundsException {
        needPath(path);
        int total = Long.bitCount(tree.layout.solids());
        int name = paths.nameBelow(path);
        if (Bits.holds(indexedNames, name)) {
            int named = Long.bitCount(tree.layout.passing(name) & tree.layout.elements());
            if (named < total) {
                return 1000 * INDEX + named;
            }
        }
        return 1000 * (paths.canStream(path) ? STREAM : WALK) + total;
    }

    public int view(int path) throws IndexOutOfBoundsException, IllegalStateException {
        needPath(path);
        if (viewCount >= MOST_VIEWS) {
            throw new IllegalStateException("there are 5 views");
        }
        viewPaths.set(viewCount, path);
        viewChanges.set(viewCount, 0);
        viewCount++;
        return viewCount - 1;
    }

    public int viewed(int view, int place) throws IndexOutOfBoundsException {
        needIndex(view, viewCount);
        needNotNegative(place);
        int path = viewPaths.get(view);
        all.prepare(path);
        return tree.layout.nodeOfSet(all.foundFrom(path, ROOT), place);
    }

    public int changed(int view) throws IndexOutOfBoundsException {
        needIndex(view, viewCount);
        return viewChanges.get(view);
    }

    // ---- words, versions, readers

    public int ranked(int word, int place) throws IndexOutOfBoundsException, IllegalArgumentException {
        needNotNegative(place);
        needRange(word, 0, HIGHEST_VALUE);
        return tree.layout.nodeAt(tree.rankedSpot(tree.textsWorth(word), place));
    }

    public int keep() throws IllegalStateException {
        if (versionCount < 0 || versionCount >= versions.length) {
            throw new IllegalStateException("there are 6 versions");
        }
        Tree version = new Tree();
        version.copy(tree);
        versions[versionCount] = version;
        versionCount++;
        return versionCount - 1;
    }

    public int take(int version) throws IndexOutOfBoundsException, IllegalStateException {
        Tree kept = neededVersion(version);
        if (updates.count() > 0) {
            throw new IllegalStateException("there are updates in the list");
        }
        if (schema.isStrict() && !schema.admits(kept)) {
            throw new IllegalStateException("the version is not valid");
        }
        spare.copy(kept);
        spare.keepMade(tree.madeCount());
        spare.numberAnew();
        settle();
        return tree.layout.count();
    }

    public int distance(int version, int other) throws IndexOutOfBoundsException {
        Tree from = neededVersion(version);
        Tree to = neededVersion(other);
        if (edits == null) {
            edits = new Edits();
        }
        int known = edits.known(version, other);
        if (known != NONE) {
            return known;
        }
        int fewest = edits.count(from, to);
        edits.note(version, other, fewest);
        return fewest;
    }

    public int odds(int base, int ours, int theirs) throws IndexOutOfBoundsException {
        Tree first = neededVersion(base);
        Tree second = neededVersion(ours);
        Tree third = neededVersion(theirs);
        int count = 0;
        for (int node = 0; node < MOST_NODES; node++) {
            if (first.differs(second, node) && second.differs(third, node) && third.differs(first, node)) {
                count++;
            }
        }
        return count;
    }

    public boolean hide(int path) throws IndexOutOfBoundsException, IllegalStateException {
        needPath(path);
        if (!Bits.holds(hiddenPaths, path) && Long.bitCount(hiddenPaths) >= MOST_HIDDEN) {
            throw new IllegalStateException("3 paths are hidden");
        }
        hiddenPaths ^= Bits.one(path);
        isReaderStale = true;
        return Bits.holds(hiddenPaths, path);
    }

    public boolean isSeen(int node) throws IndexOutOfBoundsException {
        needNode(node);
        return refreshedReader().sees(tree.layout.spotOf(node));
    }

    // ---- what calls need

    private void needNode(int node) {
        if (!tree.layout.holds(node)) {
            throw new IndexOutOfBoundsException("there is no such node");
        }
    }

    private void needPlaceIn(int parent, int place) {
        needNode(parent);
        if (place < 0 || place > tree.layout.childCount(parent)) {
            throw new IndexOutOfBoundsException("there is no such place");
        }
    }

    private void needPlaceOf(long set, int place) {
        if (place < 0 || place >= Long.bitCount(set)) {
            throw new IndexOutOfBoundsException("the path finds not so many");
        }
    }

    private void needNotNegative(int place) {
        if (place < 0) {
            throw new IndexOutOfBoundsException("a place is not below 0");
        }
    }

    private void needIndex(int index, int count) {
        if (index < 0 || index >= count) {
            throw new IndexOutOfBoundsException("there is no such type, state or view");
        }
    }

    private void needRange(int given, int lowest, int highest) {
        if (given < lowest || given > highest) {
            throw new IllegalArgumentException("an argument is out of its range");
        }
    }

    private void needElement(int node) {
        if (tree.kinds.get(node) != ELEMENT) {
            throw new IllegalStateException("it is no element");
        }
    }

    private void needRoom() {
        if (updates.count() >= MOST_UPDATES) {
            throw new IllegalStateException("there are 20 updates");
        }
    }

    private void needPath(int path) {
        if (path < 0 || path >= paths.count()) {
            throw new IndexOutOfBoundsException("there is no such path");
        }
    }

    private void needLower(int path, int other) {
        if (other < 0 || other >= path) {
            throw new IndexOutOfBoundsException("it is no lower path");
        }
    }

    /** A path with a view stays as it is, so that the view never has to be found anew but after updates. */
    private void needOpenPath(int path) {
        if (path != paths.count() - 1) {
            throw new IllegalStateException("it is not the last path");
        }
        for (int view = 0; view < viewCount; view++) {
            if (viewPaths.get(view) == path) {
                throw new IllegalStateException("the path has a view");
            }
        }
    }

    private void needOpenStep(int path) {
        needOpenPath(path);
        if (paths.stepsOf(path) < 1) {
            throw new IllegalStateException("the path has no step");
        }
        if (paths.conditionsOfLast(path) >= MOST_CONDITIONS) {
            throw new IllegalStateException("the last step has 2 conditions");
        }
    }

    private void needStart(Finder finder, int from) {
        needNode(from);
        if (!finder.sees(tree.layout.spotOf(from))) {
            throw new IndexOutOfBoundsException("a reader does not see the node");
        }
    }

    private void needLooseSchema() {
        if (schema.isStrict()) {
            throw new IllegalStateException("the schema is strict");
        }
    }

    private Tree neededVersion(int version) {
        if (version < 0 || version >= versions.length) {
            throw new IndexOutOfBoundsException("there is no such version");
        }
        Tree kept = versions[version];
        if (kept == null) {
            throw new IndexOutOfBoundsException("there is no such version");
        }
        return kept;
    }

    // ---- what changes reach

    private void noteChangeOf(int path) {
        all.dropFrom(path);
        reader.dropFrom(path);
        if (Bits.holds(hiddenPaths, path)) {
            isReaderStale = true;
        }
    }

    /** Makes the spare tree the tree, and counts what that changes in the views. */
    private void settle() {
        for (int view = 0; view < viewCount; view++) {
            all.prepare(viewPaths.get(view));
            viewSets.set(view, viewedNodes(view));
        }
        tree.copy(spare);
        all.start(tree.layout.everything());
        isReaderStale = true;
        for (int view = 0; view < viewCount; view++) {
            all.prepare(viewPaths.get(view));
            viewChanges.set(view, Long.bitCount(viewSets.get(view) ^ viewedNodes(view)));
        }
    }

    private long viewedNodes(int view) {
        return tree.layout.nodesOf(all.foundFrom(viewPaths.get(view), ROOT));
    }

    private Finder refreshedReader() {
        if (!isReaderStale) {
            return reader;
        }
        long hidden = 0L;
        for (int path = 0; path < paths.count(); path++) {
            if (Bits.holds(hiddenPaths, path)) {
                all.prepare(path);
                hidden |= all.foundFrom(path, ROOT);
            }
        }
        hidden = tree.layout.spread(hidden & ~Bits.one(ROOT));
        reader.start(tree.layout.everything() & ~hidden);
        isReaderStale = false;
        return reader;
    }

    /** Numbers in a row; outside of it stands NONE. */
    private static final class Row {
        private final int[] cells;

        Row(int length, int fill) {
            cells = new int[length < 0 ? 0 : length];
            Arrays.fill(cells, fill);
        }

        int get(int at) {
            return at >= 0 && at < cells.length ? cells[at] : NONE;
        }

        void set(int at, int given) {
            if (at >= 0 && at < cells.length) {
                cells[at] = given;
            }
        }

        void setAll(int given) {
            Arrays.fill(cells, given);
        }

        void copy(Row other) {
            int length = Math.min(cells.length, other.cells.length);
            System.arraycopy(other.cells, 0, cells, 0, length);
        }

        /** The sets, one for each member, taken together; the first member's one stands at start. */
        int union(int start, int members) {
            int union = 0;
            for (int member = 0; member < 8; member++) {
                int at = start + member;
                if ((members >> member & 1) != 0 && at >= 0 && at < cells.length) {
                    union |= cells[at];
                }
            }
            return union;
        }

        /** What the sets lead to from the members, in one step or more. */
        int closure(int start, int members) {
            int reached = union(start, members);
            for (int round = 0; round < 8; round++) {
                reached |= union(start, reached);
            }
            return reached;
        }
    }

    /** Sets in a row; outside of it stands the empty one. */
    private static final class Sets {
        private final long[] cells;

        Sets(int length) {
            cells = new long[length < 0 ? 0 : length];
        }

        long get(int at) {
            return at >= 0 && at < cells.length ? cells[at] : 0L;
        }

        void set(int at, long given) {
            if (at >= 0 && at < cells.length) {
                cells[at] = given;
            }
        }

        void add(int at, int member) {
            if (at >= 0 && at < cells.length) {
                cells[at] |= Bits.one(member);
            }
        }

        void emptyAll() {
            Arrays.fill(cells, 0L);
        }

        /** The sets, one for each member, taken together; the first member's one stands at start. */
        long union(int start, long members) {
            long union = 0L;
            long rest = members;
            for (int left = Long.bitCount(members); left > 0; left--) {
                int at = start + Bits.lowest(rest);
                union |= at >= 0 && at < cells.length ? cells[at] : 0L;
                rest &= rest - 1;
            }
            return union;
        }
    }

    /** Sets of numbers from 0 to 63, as the bits of a long. */
    private static final class Bits {
        static long one(int member) {
            return member >= 0 && member < 64 ? 1L << member : 0L;
        }

        static long below(int end) {
            if (end <= 0) {
                return 0L;
            }
            return end >= 64 ? -1L : (1L << end) - 1L;
        }

        static boolean holds(long set, int member) {
            return member >= 0 && member < 64 && (set >>> member & 1L) != 0L;
        }

        static int lowest(long set) {
            return set == 0L ? NONE : Long.bitCount((set & -set) - 1L);
        }

        static int memberAt(long set, int place) {
            if (place < 0 || place >= Long.bitCount(set)) {
                return NONE;
            }
            long rest = set;
            for (int passed = 0; passed < place; passed++) {
                rest &= rest - 1;
            }
            return lowest(rest);
        }

        static boolean agrees(int given, int comparison, int number) {
            if (comparison == EQUAL) {
                return given == number;
            }
            return comparison == LESS ? given < number : given > number;
        }
    }

    /** The order of the document: which node stands at which spot, and what the axes and tests reach there. */
    private static final class Layout {
        private final Row order = new Row(MOST_NODES, NONE);
        private final Row spots = new Row(MOST_NODES, NONE);
        private final Row ups = new Row(MOST_NODES, NONE);
        private final Row ends = new Row(MOST_NODES, 0);
        private final Row spaces = new Row(MOST_NODES, NONE);
        private final Sets inner = new Sets(MOST_NODES);
        private final Sets beside = new Sets(MOST_NODES);
        private final Sets above = new Sets(MOST_NODES);
        private final Sets below = new Sets(MOST_NODES);
        private final Sets tests = new Sets(ALL_TESTS);
        private long elements = 0L;
        private long attributes = 0L;
        private int count = 0;

        void clear() {
            spots.setAll(NONE);
            inner.emptyAll();
            tests.emptyAll();
            elements = 0L;
            attributes = 0L;
            count = 0;
        }

        /** Adds the next node of the order; up is the spot of its parent, NONE at the root. */
        void add(int node, int up, int kind, int name, int declared) {
            int spot = count;
            count++;
            order.set(spot, node);
            spots.set(node, spot);
            ups.set(spot, up);
            inner.add(up, spot);
            above.set(spot, above.get(up) | Bits.one(up));
            ends.set(spot, spot + 1);
            spaces.set(spot, NONE);
            tests.add(ANY, spot);
            if (kind == TEXT) {
                tests.add(TEXTS, spot);
                return;
            }
            tests.add(name, spot);
            if (kind == ATTRIBUTE) {
                attributes |= Bits.one(spot);
                return;
            }
            elements |= Bits.one(spot);
            int space = declared != NONE ? declared : up != NONE ? spaces.get(up) : 0;
            spaces.set(spot, space);
            tests.add(SPACE + space, spot);
        }

        /** Tells what hangs on what, once all nodes are in: what is below a spot ends where its last child ends. */
        void close() {
            for (int spot = count - 1; spot >= 0; spot--) {
                int up = ups.get(spot);
                ends.set(up, Math.max(ends.get(up), ends.get(spot)));
                below.set(spot, Bits.below(ends.get(spot)) & ~Bits.below(spot + 1));
                beside.set(spot, Bits.holds(attributes, spot) ? 0L : children(up));
            }
        }

        int count() {
            return count;
        }

        boolean holds(int node) {
            return spots.get(node) != NONE;
        }

        int spotOf(int node) {
            return spots.get(node);
        }

        int nodeAt(int spot) {
            return order.get(spot);
        }

        int nodeOfSet(long set, int place) {
            return order.get(Bits.memberAt(set, place));
        }

        int upOf(int spot) {
            return ups.get(spot);
        }

        int sizeAt(int spot) {
            return ends.get(spot) - spot;
        }

        int depthAt(int spot) {
            return Long.bitCount(above.get(spot));
        }

        int spaceAt(int spot) {
            return spaces.get(spot);
        }

        long everything() {
            return Bits.below(count);
        }

        long elements() {
            return elements;
        }

        long solids() {
            return Bits.below(count) & ~attributes;
        }

        long passing(int test) {
            return tests.get(test);
        }

        long children(int spot) {
            return inner.get(spot) & ~attributes;
        }

        long attributesOf(int spot) {
            return inner.get(spot) & attributes;
        }

        int childCount(int node) {
            return Long.bitCount(children(spots.get(node)));
        }

        long below(int spot) {
            return below.get(spot);
        }

        /** The set with all that is below its members. */
        long spread(long set) {
            long wide = set;
            for (int spot = 0; spot < count; spot++) {
                if (Bits.holds(set, spot)) {
                    wide |= below.get(spot);
                }
            }
            return wide;
        }

        long nodesOf(long set) {
            long nodes = 0L;
            for (int spot = 0; spot < count; spot++) {
                if (Bits.holds(set, spot)) {
                    nodes |= Bits.one(order.get(spot));
                }
            }
            return nodes;
        }

        long spotsOf(long nodes) {
            long set = 0L;
            for (int spot = 0; spot < count; spot++) {
                if (Bits.holds(nodes, order.get(spot))) {
                    set |= Bits.one(spot);
                }
            }
            return set;
        }

        /** The nodes on any axis but REPEAT. */
        long reached(int axis, int spot) {
            switch (axis) {
                case SELF:
                    return Bits.one(spot);
                case CHILD:
                    return inner.get(spot) & ~attributes;
                case PARENT:
                    return Bits.one(ups.get(spot));
                case DESCENDANT:
                    return below.get(spot) & ~attributes;
                case DESCENDANT_OR_SELF:
                    return below.get(spot) & ~attributes | Bits.one(spot);
                case ANCESTOR:
                    return above.get(spot);
                case ANCESTOR_OR_SELF:
                    return above.get(spot) | Bits.one(spot);
                case FOLLOWING:
                    return Bits.below(count) & ~Bits.below(ends.get(spot)) & ~attributes;
                case PRECEDING:
                    return Bits.below(spot) & ~attributes & ~above.get(spot);
                case FOLLOWING_SIBLING:
                    return beside.get(spot) & ~Bits.below(spot + 1);
                case PRECEDING_SIBLING:
                    return beside.get(spot) & Bits.below(spot);
                case ATTRIBUTES:
                    return inner.get(spot) & attributes;
                default:
                    return 0L;
            }
        }
    }

    /** A tree, by the numbers of its nodes; below a parent, attributes are linked ahead of children. */
    private static final class Tree {
        final Layout layout = new Layout();
        final Row kinds = new Row(MOST_NODES, NONE);
        final Row names = new Row(MOST_NODES, NONE);
        final Row contents = new Row(MOST_NODES, NONE);
        final Row declared = new Row(MOST_NODES, NONE);
        final Row parents = new Row(MOST_NODES, NONE);
        final Row numbers = new Row(MOST_NODES, NONE);
        private final Row firsts = new Row(MOST_NODES, NONE);
        private final Row nexts = new Row(MOST_NODES, NONE);
        private final Row tails = new Row(MOST_NODES, NONE);
        private int made = 0;

        int madeCount() {
            return made;
        }

        void keepMade(int given) {
            made = given;
        }

        int make(int kind, int name, int content) {
            int node = made;
            made++;
            kinds.set(node, kind);
            names.set(node, name);
            contents.set(node, content);
            declared.set(node, NONE);
            numbers.set(node, NONE);
            return node;
        }

        void append(int parent, int node) {
            parents.set(node, parent);
            int tail = tails.get(parent);
            if (tail == NONE) {
                firsts.set(parent, node);
            } else {
                nexts.set(tail, node);
            }
            tails.set(parent, node);
        }

        /** Copies the nodes without the links between them. */
        void copyLoose(Tree other) {
            made = other.made;
            kinds.copy(other.kinds);
            names.copy(other.names);
            contents.copy(other.contents);
            declared.copy(other.declared);
            numbers.copy(other.numbers);
            parents.setAll(NONE);
            firsts.setAll(NONE);
            nexts.setAll(NONE);
            tails.setAll(NONE);
        }

        void copy(Tree other) {
            copyLoose(other);
            parents.copy(other.parents);
            firsts.copy(other.firsts);
            nexts.copy(other.nexts);
            tails.copy(other.tails);
            layOut();
        }

        void layOut() {
            layout.clear();
            int node = ROOT;
            for (int passed = 0; passed < MOST_NODES && node != NONE; passed++) {
                int up = layout.spotOf(parents.get(node));
                layout.add(node, up, kinds.get(node), names.get(node), declared.get(node));
                node = following(node);
            }
            layout.close();
        }

        private int following(int node) {
            if (firsts.get(node) != NONE) {
                return firsts.get(node);
            }
            int climber = node;
            for (int passed = 0; passed < MOST_NODES && climber != NONE; passed++) {
                if (nexts.get(climber) != NONE) {
                    return nexts.get(climber);
                }
                climber = parents.get(climber);
            }
            return NONE;
        }

        /** Whether some node is below itself: then one climbs from it without an end. */
        boolean isTangled() {
            for (int node = 0; node < made; node++) {
                int climber = node;
                for (int passed = 0; passed <= MOST_NODES && climber != NONE; passed++) {
                    climber = parents.get(climber);
                }
                if (climber != NONE) {
                    return true;
                }
            }
            return false;
        }

        boolean hasTwins() {
            for (int spot = 0; spot < layout.count(); spot++) {
                long attributes = layout.attributesOf(spot);
                for (int name = 0; name < NAMES && attributes != 0L; name++) {
                    if (Long.bitCount(attributes & layout.passing(name)) > 1) {
                        return true;
                    }
                }
            }
            return false;
        }

        /** The value at a spot, an element's one told by the texts of the set alone. */
        int valueAt(int spot, long seen) {
            if (!Bits.holds(layout.elements(), spot)) {
                return contents.get(layout.nodeAt(spot));
            }
            long texts = layout.below(spot) & layout.passing(TEXTS) & seen;
            return contents.get(layout.nodeOfSet(texts, 0));
        }

        void numberAnew() {
            int number = 0;
            for (int spot = 0; spot < layout.count(); spot++) {
                if (Bits.holds(layout.solids(), spot)) {
                    number += GAP;
                    numbers.set(layout.nodeAt(spot), number);
                }
            }
        }

        /** Numbers these nodes and all below them between the others; false if there is no room for some. */
        boolean numberFresh(long nodes) {
            long fresh = layout.spread(layout.spotsOf(nodes)) & layout.solids();
            int ahead = ROOT;
            for (int spot = 0; spot < layout.count(); spot++) {
                if (Bits.holds(layout.solids() & ~fresh, spot)) {
                    if (!numberRow(fresh & Bits.below(spot) & ~Bits.below(ahead), ahead, spot)) {
                        return false;
                    }
                    ahead = spot;
                }
            }
            return numberRow(fresh & ~Bits.below(ahead), ahead, NONE);
        }

        private boolean numberRow(long row, int ahead, int behind) {
            int size = Long.bitCount(row);
            if (size < 1) {
                return true;
            }
            int start = numbers.get(layout.nodeAt(ahead));
            int room = numbers.get(layout.nodeAt(behind)) - start;
            if (behind != NONE && room <= size) {
                return false;
            }
            for (int place = 1; place <= size; place++) {
                int node = layout.nodeOfSet(row, place - 1);
                int rise = behind == NONE ? GAP * place : place * room / (size + 1);
                numbers.set(node, start + rise);
            }
            return true;
        }

        long textsWorth(int word) {
            long set = 0L;
            for (int spot = 0; spot < layout.count(); spot++) {
                if (Bits.holds(layout.passing(TEXTS), spot) && contents.get(layout.nodeAt(spot)) == word) {
                    set |= Bits.one(spot);
                }
            }
            return set;
        }

        /** The element at a place of the rank by hits; NONE if there are not so many. */
        int rankedSpot(long hits, int place) {
            for (int spot = 0; spot < layout.count(); spot++) {
                if (isRanked(hits, spot) && countAhead(hits, spot) == place) {
                    return spot;
                }
            }
            return NONE;
        }

        private boolean isRanked(long hits, int spot) {
            return Bits.holds(layout.elements(), spot) && (layout.below(spot) & hits) != 0L;
        }

        private int countAhead(long hits, int spot) {
            int count = 0;
            for (int other = 0; other < layout.count(); other++) {
                if (isRanked(hits, other)) {
                    int lead = lead(hits, other, spot);
                    count += lead > 0 || lead == 0 && other < spot ? 1 : 0;
                }
            }
            return count;
        }

        /** How far the quotient at a spot is above that at another: multiplied across, so that nothing is lost. */
        private int lead(long hits, int spot, int other) {
            long texts = layout.passing(TEXTS);
            long below = layout.below(spot);
            long belowOther = layout.below(other);
            return Long.bitCount(below & hits) * Long.bitCount(belowOther & texts)
                    - Long.bitCount(belowOther & hits) * Long.bitCount(below & texts);
        }

        boolean differs(Tree other, int node) {
            if (layout.holds(node) != other.layout.holds(node)) {
                return true;
            }
            if (!layout.holds(node)) {
                return false;
            }
            return parents.get(node) != other.parents.get(node)
                    || names.get(node) != other.names.get(node)
                    || contents.get(node) != other.contents.get(node)
                    || declared.get(node) != other.declared.get(node);
        }

        boolean looksLike(int node, Tree other, int otherNode) {
            return kinds.get(node) == other.kinds.get(otherNode)
                    && names.get(node) == other.names.get(otherNode)
                    && contents.get(node) == other.contents.get(otherNode)
                    && declared.get(node) == other.declared.get(otherNode);
        }
    }

    /** The list of updates, and the tree that they make. */
    private static final class Updates {
        static final int INSERTION = 0;
        static final int REMOVAL = 1;
        static final int RENAMING = 2;
        static final int VALUING = 3;
        static final int MOVING = 4;
        static final int DECLARING = 5;

        private final Row whats = new Row(MOST_UPDATES, NONE);
        private final Row targets = new Row(MOST_UPDATES, NONE);
        private final Row parents = new Row(MOST_UPDATES, NONE);
        private final Row places = new Row(MOST_UPDATES, NONE);
        private final Row kinds = new Row(MOST_UPDATES, NONE);
        private final Row names = new Row(MOST_UPDATES, NONE);
        private final Row contents = new Row(MOST_UPDATES, NONE);
        /** The nodes that the updates insert or move, as they are known once these are done. */
        private final Row subjects = new Row(MOST_UPDATES, NONE);
        private long fresh = 0L;
        private long taken = 0L;
        /** The elements that something is put into. */
        private long entered = 0L;
        private int count = 0;

        int count() {
            return count;
        }

        long fresh() {
            return fresh;
        }

        int empty() {
            int had = count;
            count = 0;
            return had;
        }

        int addInsert(int kind, int parent, int place, int name, int content) {
            kinds.set(count, kind);
            names.set(count, name);
            contents.set(count, content);
            return add(INSERTION, NONE, parent, place);
        }

        int addMove(int node, int parent, int place) {
            return add(MOVING, node, parent, place);
        }

        /** Adds an update of a node where it is: its new name, value or space stands as the content. */
        int addChange(int what, int node, int content) {
            contents.set(count, content);
            return add(what, node, NONE, NONE);
        }

        private int add(int what, int target, int parent, int place) {
            whats.set(count, what);
            targets.set(count, target);
            parents.set(count, parent);
            places.set(count, place);
            count++;
            return count;
        }

        boolean canBeDone(Tree now) {
            int insertions = 0;
            for (int update = 0; update < count; update++) {
                if (isStale(now, update) || hasClash(update)) {
                    return false;
                }
                insertions += whats.get(update) == INSERTION ? 1 : 0;
            }
            return now.madeCount() + insertions <= MOST_NODES;
        }

        /** The document asks for this, though today only calls that need an empty list change the tree in between. */
        private boolean isStale(Tree now, int update) {
            int target = targets.get(update);
            int parent = parents.get(update);
            if (target != NONE && !now.layout.holds(target)) {
                return true;
            }
            if (parent == NONE) {
                return false;
            }
            return !now.layout.holds(parent) || places.get(update) > now.layout.childCount(parent);
        }

        private boolean hasClash(int update) {
            for (int other = 0; other < update; other++) {
                if (targets.get(update) != NONE && targets.get(update) == targets.get(other)
                        && doClash(whats.get(update), whats.get(other))) {
                    return true;
                }
            }
            return false;
        }

        private static boolean doClash(int what, int other) {
            if (what == other) {
                return what != REMOVAL;
            }
            return what == MOVING && other == REMOVAL || what == REMOVAL && other == MOVING;
        }

        /** Makes the tree that is there then; a removed node hangs nowhere, with all that hangs on it. */
        void build(Tree now, Tree then) {
            then.copyLoose(now);
            fresh = 0L;
            taken = 0L;
            entered = 0L;
            for (int update = 0; update < count; update++) {
                change(then, update);
            }
            for (int spot = 0; spot < now.layout.count(); spot++) {
                if (Bits.holds(now.layout.elements(), spot)) {
                    linkAttributes(now, then, spot);
                    linkChildren(now, then, spot);
                }
            }
            then.layOut();
        }

        private void change(Tree then, int update) {
            int target = targets.get(update);
            entered |= Bits.one(parents.get(update));
            switch (whats.get(update)) {
                case INSERTION:
                    int node = then.make(kinds.get(update), names.get(update), contents.get(update));
                    subjects.set(update, node);
                    fresh |= Bits.one(node);
                    break;
                case MOVING:
                    subjects.set(update, target);
                    fresh |= Bits.one(target);
                    taken |= Bits.one(target);
                    break;
                case REMOVAL:
                    taken |= Bits.one(target);
                    break;
                case RENAMING:
                    then.names.set(target, contents.get(update));
                    break;
                case VALUING:
                    then.contents.set(target, contents.get(update));
                    break;
                default:
                    then.declared.set(target, contents.get(update));
                    break;
            }
        }

        private void linkAttributes(Tree now, Tree then, int spot) {
            int element = now.layout.nodeAt(spot);
            long old = now.layout.attributesOf(spot);
            int olds = Long.bitCount(old);
            int news = Bits.holds(entered, element) ? count : 0;
            for (int name = 0; name < NAMES && olds + news > 0; name++) {
                for (int place = 0; place < olds; place++) {
                    int node = now.layout.nodeOfSet(old, place);
                    if (then.names.get(node) == name && !Bits.holds(taken, node)) {
                        then.append(element, node);
                    }
                }
                for (int update = 0; update < news; update++) {
                    if (isInto(update, element, NONE) && names.get(update) == name) {
                        then.append(element, subjects.get(update));
                    }
                }
            }
        }

        private void linkChildren(Tree now, Tree then, int spot) {
            int element = now.layout.nodeAt(spot);
            long old = now.layout.children(spot);
            int olds = Long.bitCount(old);
            int news = Bits.holds(entered, element) ? count : 0;
            for (int place = 0; place <= olds; place++) {
                for (int update = 0; update < news; update++) {
                    if (isInto(update, element, place)) {
                        then.append(element, subjects.get(update));
                    }
                }
                int node = now.layout.nodeOfSet(old, place);
                if (node != NONE && !Bits.holds(taken, node)) {
                    then.append(element, node);
                }
            }
        }

        /** Whether an update puts a node into an element at a place; an attribute has the place NONE. */
        private boolean isInto(int update, int element, int place) {
            return parents.get(update) == element && places.get(update) == place;
        }
    }

    /** The paths, with their steps and conditions in rows. */
    private static final class Paths {
        static final int PLACED = 0;
        static final int FINAL = 1;
        static final int HAVING = 2;
        static final int LACKING = 3;
        static final int WORTHY = 4;

        private final Row stepCounts = new Row(MOST_PATHS, 0);
        private final Row axes = new Row(MOST_PATHS * MOST_STEPS, NONE);
        private final Row tests = new Row(MOST_PATHS * MOST_STEPS, NONE);
        private final Row repeats = new Row(MOST_PATHS * MOST_STEPS, NONE);
        private final Row conditionCounts = new Row(MOST_PATHS * MOST_STEPS, 0);
        private final Row whats = new Row(MOST_PATHS * MOST_STEPS * MOST_CONDITIONS, NONE);
        private final Row others = new Row(MOST_PATHS * MOST_STEPS * MOST_CONDITIONS, NONE);
        private final Row comparisons = new Row(MOST_PATHS * MOST_STEPS * MOST_CONDITIONS, NONE);
        private final Row numbers = new Row(MOST_PATHS * MOST_STEPS * MOST_CONDITIONS, NONE);
        private int count = 0;

        int count() {
            return count;
        }

        int addPath() {
            count++;
            return count - 1;
        }

        int addStep(int path, int axis, int test, int by) {
            int size = stepCounts.get(path);
            int step = stepAt(path, size);
            axes.set(step, axis);
            tests.set(step, test);
            repeats.set(step, by);
            stepCounts.set(path, size + 1);
            return size + 1;
        }

        int addCondition(int path, int what, int other, int comparison, int number) {
            int step = stepAt(path, stepCounts.get(path) - 1);
            int size = conditionCounts.get(step);
            int condition = conditionAt(step, size);
            whats.set(condition, what);
            others.set(condition, other);
            comparisons.set(condition, comparison);
            numbers.set(condition, number);
            conditionCounts.set(step, size + 1);
            return size + 1;
        }

        int stepAt(int path, int place) {
            return path * MOST_STEPS + place;
        }

        int conditionAt(int step, int place) {
            return step * MOST_CONDITIONS + place;
        }

        int stepsOf(int path) {
            return stepCounts.get(path);
        }

        int conditionsOf(int step) {
            return conditionCounts.get(step);
        }

        int conditionsOfLast(int path) {
            return conditionCounts.get(stepAt(path, stepCounts.get(path) - 1));
        }

        int axisOf(int step) {
            return axes.get(step);
        }

        int testOf(int step) {
            return tests.get(step);
        }

        int repeatOf(int step) {
            return repeats.get(step);
        }

        int whatOf(int condition) {
            return whats.get(condition);
        }

        int otherOf(int condition) {
            return others.get(condition);
        }

        int comparisonOf(int condition) {
            return comparisons.get(condition);
        }

        int numberOf(int condition) {
            return numbers.get(condition);
        }

        /** The name by which the path begins to look below the root; NONE if it begins otherwise. */
        int nameBelow(int path) {
            int step = stepAt(path, 0);
            boolean isNamed = stepCounts.get(path) > 0 && axes.get(step) == DESCENDANT && tests.get(step) < NAMES;
            return isNamed ? tests.get(step) : NONE;
        }

        boolean canStream(int path) {
            for (int place = 0; place < stepCounts.get(path); place++) {
                int step = stepAt(path, place);
                if (!goesDown(axes.get(step))) {
                    return false;
                }
                for (int i = 0; i < conditionCounts.get(step); i++) {
                    if (!isTellableAtOnce(conditionAt(step, i))) {
                        return false;
                    }
                }
            }
            return true;
        }

        private static boolean goesDown(int axis) {
            return axis == SELF || axis == CHILD || axis == DESCENDANT || axis == DESCENDANT_OR_SELF
                    || axis == ATTRIBUTES;
        }

        private boolean isTellableAtOnce(int condition) {
            int what = whats.get(condition);
            if (what == PLACED) {
                return comparisons.get(condition) != GREATER;
            }
            return what != FINAL && staysAtNode(others.get(condition));
        }

        private boolean staysAtNode(int path) {
            for (int place = 0; place < stepCounts.get(path); place++) {
                int step = stepAt(path, place);
                boolean isNear = axes.get(step) == SELF || axes.get(step) == ATTRIBUTES;
                if (!isNear || conditionCounts.get(step) > 0) {
                    return false;
                }
            }
            return true;
        }
    }

    /** Finds by paths among the seen nodes: a table of what each path finds from each spot, filled when asked. */
    private static final class Finder {
        private final Tree tree;
        private final Layout layout;
        private final Paths paths;
        private final Sets tables = new Sets(MOST_PATHS * MOST_NODES);
        /** What the step at hand finds from each spot. */
        private final Sets leaps = new Sets(MOST_NODES);
        private final Row values = new Row(MOST_NODES, NONE);
        private long seen = 0L;
        private int ready = 0;

        Finder(Tree tree, Paths paths) {
            this.tree = tree;
            this.layout = tree.layout;
            this.paths = paths;
        }

        void start(long seenNow) {
            seen = seenNow;
            ready = 0;
            for (int spot = 0; spot < layout.count(); spot++) {
                values.set(spot, tree.valueAt(spot, seen));
            }
        }

        void dropFrom(int path) {
            ready = Math.min(ready, path);
        }

        boolean sees(int spot) {
            return Bits.holds(seen, spot);
        }

        long foundFrom(int path, int spot) {
            return tables.get(path * MOST_NODES + spot);
        }

        /** Fills the tables up to that of a path: those of lower paths are asked for by its conditions. */
        void prepare(int path) {
            for (int next = ready; next <= path; next++) {
                for (int spot = 0; spot < layout.count(); spot++) {
                    tables.set(next * MOST_NODES + spot, seen & Bits.one(spot));
                }
                for (int place = 0; place < paths.stepsOf(next); place++) {
                    takeStep(next, paths.stepAt(next, place));
                }
            }
            ready = Math.max(ready, path + 1);
        }

        private void takeStep(int path, int step) {
            int axis = paths.axisOf(step);
            if (axis == REPEAT) {
                reachByPath(paths.repeatOf(step), layout.passing(paths.testOf(step)));
            } else {
                reachByAxis(axis, layout.passing(paths.testOf(step)));
            }
            for (int i = 0; i < paths.conditionsOf(step); i++) {
                int condition = paths.conditionAt(step, i);
                int what = paths.whatOf(condition);
                if (what == Paths.PLACED || what == Paths.FINAL) {
                    siftByPlace(condition, goesBack(axis));
                } else {
                    siftByTruth(condition, what == Paths.WORTHY ? worthy(condition) : -1L);
                }
            }
            for (int spot = 0; spot < layout.count(); spot++) {
                int entry = path * MOST_NODES + spot;
                tables.set(entry, leaps.union(0, tables.get(entry)));
            }
        }

        private void reachByAxis(int axis, long passing) {
            for (int spot = 0; spot < layout.count(); spot++) {
                leaps.set(spot, layout.reached(axis, spot) & passing & seen);
            }
        }

        private void reachByPath(int path, long passing) {
            int table = path * MOST_NODES;
            for (int spot = 0; spot < layout.count(); spot++) {
                long reached = 0L;
                long fresh = tables.get(table + spot);
                for (int round = 0; round < MOST_NODES && fresh != 0L; round++) {
                    reached |= fresh;
                    fresh = tables.union(table, fresh) & ~reached;
                }
                leaps.set(spot, reached & passing & seen);
            }
        }

        private void siftByPlace(int condition, boolean isBack) {
            boolean isLast = paths.whatOf(condition) == Paths.FINAL;
            for (int spot = 0; spot < layout.count(); spot++) {
                long set = leaps.get(spot);
                int comparison = isLast ? EQUAL : paths.comparisonOf(condition);
                int number = isLast ? Long.bitCount(set) : paths.numberOf(condition);
                leaps.set(spot, keepPlaced(set, isBack, comparison, number));
            }
        }

        private void siftByTruth(int condition, long counting) {
            boolean isDue = paths.whatOf(condition) != Paths.LACKING;
            long hitting = 0L;
            for (int spot = 0; spot < layout.count(); spot++) {
                boolean isHit = (tables.get(paths.otherOf(condition) * MOST_NODES + spot) & counting) != 0L;
                hitting |= isHit == isDue ? Bits.one(spot) : 0L;
            }
            for (int spot = 0; spot < layout.count(); spot++) {
                leaps.set(spot, leaps.get(spot) & hitting);
            }
        }

        /** The nodes whose own values are as a condition WORTH asks. */
        private long worthy(int condition) {
            long set = 0L;
            for (int spot = 0; spot < layout.count(); spot++) {
                int found = values.get(spot);
                if (found != NONE && Bits.agrees(found, paths.comparisonOf(condition), paths.numberOf(condition))) {
                    set |= Bits.one(spot);
                }
            }
            return set;
        }

        private static long keepPlaced(long set, boolean isBack, int comparison, int number) {
            int size = Long.bitCount(set);
            long kept = 0L;
            long rest = set;
            for (int passed = 1; passed <= size; passed++) {
                if (Bits.agrees(isBack ? size + 1 - passed : passed, comparison, number)) {
                    kept |= rest & -rest;
                }
                rest &= rest - 1;
            }
            return kept;
        }

        private static boolean goesBack(int axis) {
            return axis == PARENT || axis == ANCESTOR || axis == ANCESTOR_OR_SELF || axis == PRECEDING
                    || axis == PRECEDING_SIBLING;
        }

        int orderedSpot(int path, int place) {
            long set = foundFrom(path, ROOT);
            for (int spot = 0; spot < layout.count(); spot++) {
                if (Bits.holds(set, spot) && countAhead(set, spot) == place) {
                    return spot;
                }
            }
            return NONE;
        }

        /** NONE is below all values, so that nodes without one come ahead. */
        private int countAhead(long set, int spot) {
            int count = 0;
            long rest = set;
            for (int left = Long.bitCount(set); left > 0; left--) {
                int other = Bits.lowest(rest);
                int lead = values.get(spot) - values.get(other);
                count += lead > 0 || lead == 0 && other < spot ? 1 : 0;
                rest &= rest - 1;
            }
            return count;
        }

        int countValues(int path) {
            long set = foundFrom(path, ROOT);
            int count = 0;
            for (int spot = 0; spot < layout.count(); spot++) {
                if (Bits.holds(set, spot) && isFirstOfValue(set, spot)) {
                    count++;
                }
            }
            return count;
        }

        private boolean isFirstOfValue(long set, int spot) {
            for (int other = 0; other < spot; other++) {
                if (Bits.holds(set, other) && values.get(other) == values.get(spot)) {
                    return false;
                }
            }
            return true;
        }
    }

    /** The grammar: types of elements, told of a tree from below, or of paths ahead. */
    private static final class Schema {
        /** Members of sets of types, behind the types. */
        private static final int TEXT_BIT = 6;
        private static final int ATTRIBUTE_BIT = 7;
        private static final int ITEMS = 8;
        private static final int ONLY_TYPES = 63;
        private static final int WITHOUT_ATTRIBUTES = 127;

        private final Row names = new Row(TYPES, NONE);
        private final Row finals = new Row(TYPES, 1);
        private final Row rules = new Row(TYPES * NAMES, BARRED);
        private final Row arcs = new Row(TYPES * STATES * TYPES, 0);
        private final Row typeSets = new Row(MOST_NODES, 0);
        private final Row haves = new Row(ITEMS, 0);
        private final Row havers = new Row(ITEMS, 0);
        private final Row told = new Row(MOST_PATHS * ITEMS, 0);
        private int textTypes = 0;
        private int everything = 0;
        private boolean isStrict = false;

        boolean isStrict() {
            return isStrict;
        }

        boolean markStrict(boolean on) {
            boolean was = isStrict;
            isStrict = on;
            return was;
        }

        int giveName(int type, int name) {
            int was = names.get(type);
            names.set(type, name);
            return was;
        }

        boolean toggleArc(int type, int from, int by, int to) {
            int at = arcAt(type, from, by);
            arcs.set(at, arcs.get(at) ^ 1 << to);
            return (arcs.get(at) >> to & 1) != 0;
        }

        private static int arcAt(int type, int from, int by) {
            return (type * STATES + from) * TYPES + by;
        }

        boolean markFinal(int type, int state, boolean isFinal) {
            int was = finals.get(type);
            finals.set(type, isFinal ? was | 1 << state : was & ~(1 << state));
            return (was >> state & 1) != 0;
        }

        boolean markTexts(int type, boolean on) {
            int was = textTypes;
            textTypes = on ? was | 1 << type : was & ~(1 << type);
            return (was >> type & 1) != 0;
        }

        int giveRule(int type, int name, int what) {
            int was = rules.get(type * NAMES + name);
            rules.set(type * NAMES + name, what);
            return was;
        }

        boolean admits(Tree tree) {
            return (typesOf(tree, ROOT) & 1) != 0;
        }

        /** Those below come first: an element's types are told by those of its children. */
        int typesOf(Tree tree, int spot) {
            for (int each = tree.layout.count() - 1; each >= spot && each >= 0; each--) {
                int set = 0;
                for (int type = 0; type < TYPES; type++) {
                    if (Bits.holds(tree.layout.elements(), each) && isOfType(tree, each, type)) {
                        set |= 1 << type;
                    }
                }
                typeSets.set(each, set);
            }
            return typeSets.get(spot);
        }

        private boolean isOfType(Tree tree, int spot, int type) {
            Layout layout = tree.layout;
            if (names.get(type) != tree.names.get(layout.nodeAt(spot))) {
                return false;
            }
            boolean hasTexts = (layout.children(spot) & layout.passing(TEXTS)) != 0L;
            if (hasTexts && (textTypes >> type & 1) == 0) {
                return false;
            }
            for (int name = 0; name < NAMES; name++) {
                boolean isOn = (layout.attributesOf(spot) & layout.passing(name)) != 0L;
                if (rules.get(type * NAMES + name) == (isOn ? BARRED : NEEDED)) {
                    return false;
                }
            }
            return isAccepted(layout.children(spot) & layout.elements(), type);
        }

        /** Whether some types of these elements lead from the state 0 to a final one. */
        private boolean isAccepted(long elements, int type) {
            int states = 1;
            long rest = elements;
            for (int left = Long.bitCount(elements); left > 0; left--) {
                states = statesBehind(type, states, typeSets.get(Bits.lowest(rest)));
                rest &= rest - 1;
            }
            return (states & finals.get(type)) != 0;
        }

        private int statesBehind(int type, int states, int types) {
            int behind = 0;
            for (int from = 0; from < STATES; from++) {
                if ((states >> from & 1) != 0) {
                    behind |= arcs.union(arcAt(type, from, 0), types);
                }
            }
            return behind;
        }

        /**
         * The types of a path. What comes from a set is what comes from its members together, so a table of what
         * each path makes of each single member serves, filled from the lowest path on.
         */
        int tell(Paths paths, int path) {
            learn();
            for (int each = 0; each <= path; each++) {
                for (int item = 0; item < ITEMS; item++) {
                    int set = everything & 1 << item;
                    for (int place = 0; place < paths.stepsOf(each); place++) {
                        set = tellStep(paths, paths.stepAt(each, place), set);
                    }
                    told.set(each * ITEMS + item, set);
                }
            }
            return told.get(path * ITEMS);
        }

        /** Finds what types can have what, among all that one comes to from the type 0. */
        private void learn() {
            haves.setAll(0);
            havers.setAll(0);
            for (int type = 0; type < TYPES; type++) {
                haves.set(type, possible(type));
            }
            everything = haves.closure(0, 1) | 1;
            for (int type = 0; type < TYPES; type++) {
                int set = haves.get(type) & everything;
                boolean isInside = (everything >> type & 1) != 0;
                for (int item = 0; item < ITEMS; item++) {
                    if (isInside && (set >> item & 1) != 0) {
                        havers.set(item, havers.get(item) | 1 << type);
                    }
                }
            }
        }

        private int possible(int type) {
            int set = (textTypes >> type & 1) << TEXT_BIT;
            for (int from = 0; from < STATES; from++) {
                for (int by = 0; by < TYPES; by++) {
                    set |= arcs.get(arcAt(type, from, by)) != 0 ? 1 << by : 0;
                }
            }
            for (int name = 0; name < NAMES; name++) {
                set |= rules.get(type * NAMES + name) != BARRED ? 1 << ATTRIBUTE_BIT : 0;
            }
            return set;
        }

        private int tellStep(Paths paths, int step, int set) {
            int axis = paths.axisOf(step);
            boolean isRepeat = axis == REPEAT;
            int reached = isRepeat ? told.closure(paths.repeatOf(step) * ITEMS, set) : tellAxis(axis, set);
            return reached & tellTest(paths.testOf(step));
        }

        private int tellAxis(int axis, int set) {
            switch (axis) {
                case SELF:
                    return set;
                case CHILD:
                    return haves.union(0, set) & WITHOUT_ATTRIBUTES;
                case PARENT:
                    return havers.union(0, set);
                case DESCENDANT:
                    return haves.closure(0, set) & WITHOUT_ATTRIBUTES;
                case DESCENDANT_OR_SELF:
                    return haves.closure(0, set) & WITHOUT_ATTRIBUTES | set;
                case ANCESTOR:
                    return havers.closure(0, set);
                case ANCESTOR_OR_SELF:
                    return havers.closure(0, set) | set;
                case FOLLOWING:
                case PRECEDING:
                    return set == 0 ? 0 : everything & WITHOUT_ATTRIBUTES;
                case FOLLOWING_SIBLING:
                case PRECEDING_SIBLING:
                    return haves.union(0, havers.union(0, set)) & WITHOUT_ATTRIBUTES;
                default:
                    return haves.union(0, set) & 1 << ATTRIBUTE_BIT;
            }
        }

        private int tellTest(int test) {
            if (test == ANY) {
                return WITHOUT_ATTRIBUTES | 1 << ATTRIBUTE_BIT;
            }
            if (test == TEXTS) {
                return 1 << TEXT_BIT;
            }
            if (test >= SPACE) {
                return ONLY_TYPES;
            }
            int set = 1 << ATTRIBUTE_BIT;
            for (int type = 0; type < TYPES; type++) {
                set |= names.get(type) == test ? 1 << type : 0;
            }
            return set;
        }
    }

    /** The fewest edits between two trees, after Zhang and Shasha: nodes are counted from below, left to right. */
    private static final class Edits {
        private static final int WIDTH = MOST_NODES + 1;

        private final Row nodes = new Row(MOST_NODES, NONE);
        private final Row lefts = new Row(MOST_NODES, NONE);
        private final Row otherNodes = new Row(MOST_NODES, NONE);
        private final Row otherLefts = new Row(MOST_NODES, NONE);
        private final Row trees = new Row(WIDTH * WIDTH, 0);
        private final Row forests = new Row(WIDTH * WIDTH, 0);
        private final Row answers = new Row(MOST_VERSIONS * MOST_VERSIONS, NONE);

        int known(int version, int other) {
            return answers.get(version * MOST_VERSIONS + other);
        }

        void note(int version, int other, int fewest) {
            answers.set(version * MOST_VERSIONS + other, fewest);
            answers.set(other * MOST_VERSIONS + version, fewest);
        }

        int count(Tree from, Tree to) {
            line(from.layout, nodes, lefts);
            line(to.layout, otherNodes, otherLefts);
            int size = from.layout.count();
            int otherSize = to.layout.count();
            long tops = outermost(lefts, size);
            long otherTops = outermost(otherLefts, otherSize);
            for (int top = 0; top < size; top++) {
                for (int otherTop = 0; otherTop < otherSize; otherTop++) {
                    if (Bits.holds(tops, top) && Bits.holds(otherTops, otherTop)) {
                        compare(from, to, top, otherTop);
                    }
                }
            }
            return trees.get((size - 1) * WIDTH + otherSize - 1);
        }

        /** Lines the nodes up behind all below them, with the place of the leftmost one below each. */
        private static void line(Layout layout, Row nodes, Row lefts) {
            for (int spot = 0; spot < layout.count(); spot++) {
                int first = spot - layout.depthAt(spot);
                int place = first + layout.sizeAt(spot) - 1;
                nodes.set(place, layout.nodeAt(spot));
                lefts.set(place, first);
            }
        }

        /** The last ones of all that begin at one leftmost place; the trees of the others are done along with theirs. */
        private static long outermost(Row lefts, int size) {
            long tops = 0L;
            long begun = 0L;
            for (int place = size - 1; place >= 0; place--) {
                if (!Bits.holds(begun, lefts.get(place))) {
                    tops |= Bits.one(place);
                }
                begun |= Bits.one(lefts.get(place));
            }
            return tops;
        }

        private void compare(Tree from, Tree to, int top, int otherTop) {
            int left = lefts.get(top);
            int otherLeft = otherLefts.get(otherTop);
            for (int x = 0; x <= top - left + 1; x++) {
                forests.set(x * WIDTH, x);
            }
            for (int y = 0; y <= otherTop - otherLeft + 1; y++) {
                forests.set(y, y);
            }
            for (int place = left; place <= top; place++) {
                for (int otherPlace = otherLeft; otherPlace <= otherTop; otherPlace++) {
                    boolean isSame = from.looksLike(nodes.get(place), to, otherNodes.get(otherPlace));
                    compareForests(place, left, otherPlace, otherLeft, isSame ? 0 : 1);
                }
            }
        }

        private void compareForests(int place, int left, int otherPlace, int otherLeft, int cost) {
            int x = place - left + 1;
            int y = otherPlace - otherLeft + 1;
            int fewest = Math.min(forests.get((x - 1) * WIDTH + y), forests.get(x * WIDTH + y - 1)) + 1;
            if (lefts.get(place) == left && otherLefts.get(otherPlace) == otherLeft) {
                fewest = Math.min(fewest, forests.get((x - 1) * WIDTH + y - 1) + cost);
                trees.set(place * WIDTH + otherPlace, fewest);
            } else {
                int aside = forests.get((lefts.get(place) - left) * WIDTH + otherLefts.get(otherPlace) - otherLeft);
                fewest = Math.min(fewest, aside + trees.get(place * WIDTH + otherPlace));
            }
            forests.set(x * WIDTH + y, fewest);
        }
    }
}
