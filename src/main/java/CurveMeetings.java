/**
 * Where cubic arcs meet: arcs by four points in whole numbers, told by a text, halved without
 * loss; what is certain of two pieces, what is in doubt, and in which spots two arcs meet.
 */
public final class CurveMeetings {
    public static final int BAD = -1, STATE = -2, FULL = -3, OVER = -4, NONE = -9;
    public static final int NO = -2147483647;

    private static final int MOST_ARCS = 4;
    private static final int MOST_LETTERS = 130;
    private static final int MOST_LETTER = 255;
    private static final int FURTHEST = 9;
    private static final int POINTS = 4;
    private static final int STEPS = 3;
    /** Numbers of an arc, or of a node: x and y of four points, in turn. */
    private static final int NUMBERS = 8;
    private static final int DEEPEST = 5;
    private static final int FIRST_DEEPEST_NODE = 32;
    private static final int LAST_NODE = 63;
    /** Three bits a halving, five halvings: in these units every node's points are whole. */
    private static final int UNIT = 32768;
    private static final int MOST_MEETINGS = 100;
    /** What stands for the spots of two arcs whose meetings are too many. */
    private static final int SPOTS_IF_OVER = 101;
    private static final int DOUBTS_OF_AN_OVERLAP = 12;
    private static final int MOST_UNDONE = 10;
    private static final int MOST_SEEN = 6;
    private static final int MOST_IMAGES = 2;
    private static final int AREA_PARTS = 20;
    /** How often the cross of points i and j counts in the area, at 4 i and j together. */
    private static final int[] AREA_WEIGHTS = {0, 6, 3, 1, 0, 0, 3, 3, 0, 0, 0, 6, 0, 0, 0, 0};

    private final Reader text;
    private final Arc[] rows;
    private int size;
    private final History history;
    private final Images images;
    private final Sightings seen;
    private final Meetings meetings;

    public CurveMeetings() {
        text = new Reader();
        rows = new Arc[MOST_ARCS];
        for (int k = 0; k < MOST_ARCS; k++) {
            rows[k] = new Arc();
        }
        size = 0;
        history = new History();
        images = new Images();
        seen = new Sightings();
        meetings = new Meetings();
    }

    // ---- what is told

    public int type(int letter) {
        if (letter < 0 || letter > MOST_LETTER) {
            return BAD;
        }
        if (text.length >= MOST_LETTERS) {
            return FULL;
        }
        return text.adds(letter);
    }

    public int clear() {
        return text.empties();
    }

    public int arcs() {
        int fault = text.findFault();
        if (fault != Reader.NO_FAULT) {
            return -10 - fault;
        }
        text.empties();
        size = text.items;
        for (int k = 0; k < size; k++) {
            rows[k].takes(text.numbers, k * NUMBERS);
        }
        history.size = 0;
        seen.size = 0;
        images.drop();
        meetings.outdate();
        return size;
    }

    public int point(int arc, int node, int i, int axis) {
        if (!isArc(arc) || !isNode(node) || !isPoint(i) || !isAxis(axis)) {
            return NO;
        }
        return rows[arc].at(node, i, axis);
    }

    // ---- what is done

    public int moves(int arc, int i, int x, int y) {
        if (!isArc(arc) || !isPoint(i) || !isCoordinate(x) || !isCoordinate(y)) {
            return BAD;
        }
        Arc row = rows[arc];
        if (row.told[2 * i] == x && row.told[2 * i + 1] == y) {
            return STATE;
        }
        startChange(arc);
        row.told[2 * i] = x;
        row.told[2 * i + 1] = y;
        row.halveAll();
        return 1;
    }

    public int shifts(int arc, int dx, int dy) {
        if (!isArc(arc) || !rows[arc].canShift(dx, dy)) {
            return BAD;
        }
        if (dx == 0 && dy == 0) {
            return STATE;
        }
        startChange(arc);
        rows[arc].shiftAll(dx, dy);
        return 1;
    }

    public int reverses(int arc) {
        if (!isArc(arc)) {
            return BAD;
        }
        startChange(arc);
        rows[arc].turnRound();
        return 1;
    }

    public int undo() {
        if (history.size <= 0) {
            return STATE;
        }
        int latest = history.size - 1;
        history.size = latest;
        rows[history.whose[latest]].takes(history.numbers, latest * NUMBERS);
        meetings.outdate();
        return latest;
    }

    // ---- pieces

    public int apart(int p, int m, int q, int n) {
        if (!areTwoArcs(p, q) || !isNode(m) || !isNode(n)) {
            return BAD;
        }
        return Pieces.whyApart(rows[p], m, rows[q], n);
    }

    public int turn(int p, int m, int q, int n) {
        if (!areTwoArcs(p, q) || !isNode(m) || !isNode(n)) {
            return BAD;
        }
        int way = Pieces.wayOfTurn(rows[p], m, rows[q], n);
        if (way == 0) {
            return 0;
        }
        int answer = way > 0 ? 1 : 2;
        return Pieces.endsCross(rows[p], m, rows[q], n) ? answer + 2 : answer;
    }

    public int bends(int arc, int node) {
        if (!isArc(arc) || !isNode(node)) {
            return BAD;
        }
        Arc row = rows[arc];
        long first = Pieces.crossOfSteps(row, node, 0, row, node, 1);
        long second = Pieces.crossOfSteps(row, node, 1, row, node, 2);
        return whichSigns(Math.min(first, second), Math.max(first, second));
    }

    public int goes(int arc, int node, int axis) {
        if (!isArc(arc) || !isNode(node) || !isAxis(axis)) {
            return BAD;
        }
        int least = rows[arc].step(node, 0, axis);
        int greatest = least;
        for (int i = 1; i < STEPS; i++) {
            int step = rows[arc].step(node, i, axis);
            least = Math.min(least, step);
            greatest = Math.max(greatest, step);
        }
        return whichSigns(least, greatest);
    }

    public int area(int arc, int what) {
        if ((arc != -1 && !isArc(arc)) || what < 0 || what > 1) {
            return NO;
        }
        int parts = 0;
        for (int k = 0; k < size; k++) {
            if (arc == -1 || arc == k) {
                parts += rows[k].areaParts();
            }
        }
        int common = commonDivisor(parts);
        return what == 0 ? parts / common : AREA_PARTS / common;
    }

    // ---- meetings

    public int meets(int p, int q, int what) {
        if (!areTwoArcs(p, q) || what < 0 || what > 2) {
            return BAD;
        }
        meetings.find(rows, p, q);
        if (meetings.isOver()) {
            return OVER;
        }
        switch (what) {
            case 0:
                return meetings.crossings;
            case 1:
                return meetings.size - meetings.crossings;
            default:
                return meetings.spots;
        }
    }

    public int meeting(int p, int q, int k, int what) {
        if (!areTwoArcs(p, q) || k < 0 || what < 0 || what > 2) {
            return BAD;
        }
        meetings.find(rows, p, q);
        if (meetings.isOver()) {
            return OVER;
        }
        if (k >= meetings.size) {
            return NONE;
        }
        switch (what) {
            case 0:
                return meetings.nodeOfP[k];
            case 1:
                return meetings.nodeOfQ[k];
            default:
                return meetings.spotOf[k];
        }
    }

    public int spot(int p, int q, int k, int what) {
        if (!areTwoArcs(p, q) || k < 0 || what < 0 || what > 5) {
            return BAD;
        }
        meetings.find(rows, p, q);
        if (meetings.isOver()) {
            return OVER;
        }
        if (k >= meetings.spots) {
            return NONE;
        }
        return meetings.tellSpot(k, what);
    }

    public int busiest(int what) {
        if (what < 0 || what > 2) {
            return BAD;
        }
        int bestP = NONE;
        int bestQ = NONE;
        int most = NONE;
        for (int p = 0; p < size; p++) {
            for (int q = p + 1; q < size; q++) {
                int spots = meetings.countSpots(rows, p, q);
                if (spots > most) {
                    bestP = p;
                    bestQ = q;
                    most = spots;
                }
            }
        }
        switch (what) {
            case 0:
                return bestP;
            case 1:
                return bestQ;
            default:
                return most;
        }
    }

    // ---- which arc

    public int sees(int q, int n) {
        if (!isArc(q) || n < 0 || n > SPOTS_IF_OVER) {
            return BAD;
        }
        if (seen.size >= MOST_SEEN) {
            return FULL;
        }
        return seen.adds(q, n);
    }

    public int forget() {
        int had = seen.size;
        seen.size = 0;
        return had;
    }

    public int unseen() {
        int bits = 0;
        for (int arc = 0; arc < size; arc++) {
            boolean fits = true;
            for (int k = 0; k < seen.size && fits; k++) {
                fits = meetings.countSpots(rows, arc, seen.whom[k]) == seen.howMany[k];
            }
            if (fits) {
                bits |= 1 << arc;
            }
        }
        return bits;
    }

    // ---- images

    public int keep(int image) {
        if (!isImage(image)) {
            return BAD;
        }
        images.kept[image] = true;
        for (int k = 0; k < size; k++) {
            System.arraycopy(rows[k].told, 0, images.numbers, Images.place(image, k), NUMBERS);
        }
        return size;
    }

    public int back(int image) {
        if (!isImage(image)) {
            return BAD;
        }
        if (!images.kept[image]) {
            return STATE;
        }
        for (int k = 0; k < size; k++) {
            rows[k].takes(images.numbers, Images.place(image, k));
        }
        history.size = 0;
        meetings.outdate();
        return size;
    }

    public int count(int what) {
        switch (what) {
            case 0:
                return size;
            case 1:
                return seen.size;
            case 2:
                return text.length;
            case 3:
                return history.size;
            default:
                return BAD;
        }
    }

    // ---- helpers of the calls

    private boolean isArc(int arc) {
        return arc >= 0 && arc < size;
    }

    private boolean areTwoArcs(int p, int q) {
        return isArc(p) && isArc(q) && p != q;
    }

    private static boolean isNode(int node) {
        return node >= 1 && node <= LAST_NODE;
    }

    private static boolean isPoint(int i) {
        return i >= 0 && i < POINTS;
    }

    private static boolean isAxis(int axis) {
        return axis == 0 || axis == 1;
    }

    private static boolean isCoordinate(long number) {
        return number >= -FURTHEST && number <= FURTHEST;
    }

    private static boolean isImage(int image) {
        return image >= 0 && image < MOST_IMAGES;
    }

    private void startChange(int arc) {
        history.adds(arc, rows[arc].told);
        meetings.outdate();
    }

    /** 0 all are 0, 1 none is below 0, 2 none is above 0, 3 there are both. */
    private static int whichSigns(long least, long greatest) {
        if (least == 0 && greatest == 0) {
            return 0;
        }
        if (least >= 0) {
            return 1;
        }
        return greatest <= 0 ? 2 : 3;
    }

    /** The greatest number that divides both the parts of an area and what they are parts of. */
    private static int commonDivisor(int parts) {
        for (int by = AREA_PARTS; by > 1; by--) {
            if (AREA_PARTS % by == 0 && parts % by == 0) {
                return by;
            }
        }
        return 1;
    }

    /** THE TEXT, and what it tells. */
    private static final class Reader {
        private static final int NO_FAULT = -1;
        private static final int OUTSIDE = -1;

        private final int[] letters = new int[MOST_LETTERS];
        private int length = 0;
        /** Apart from the arcs themselves, since a text with a fault must change nothing. */
        private final int[] numbers = new int[MOST_ARCS * NUMBERS];
        private int items = 0;
        /** How many numbers the open item has so far, or OUTSIDE. */
        private int inItem = OUTSIDE;
        private boolean minus = false;

        private int adds(int letter) {
            if (length < MOST_LETTERS) {
                letters[length] = letter;
                length++;
            }
            return length;
        }

        private int empties() {
            int had = length;
            length = 0;
            return had;
        }

        /** Reads all; every token that may stand is one letter long, so a place is a token's. */
        private int findFault() {
            items = 0;
            inItem = OUTSIDE;
            minus = false;
            for (int at = 0; at < length; at++) {
                if (letters[at] != ' ' && !takesToken(at)) {
                    return at;
                }
            }
            return inItem == OUTSIDE ? NO_FAULT : length;
        }

        private boolean takesToken(int at) {
            if (isFigure(at)) {
                return takesNumber(at);
            }
            switch (letters[at]) {
                case 'a':
                    return opensItem();
                case '-':
                    return takesMinus();
                case ';':
                    return endsItem();
                default:
                    return false;
            }
        }

        private boolean opensItem() {
            if (inItem != OUTSIDE || items >= MOST_ARCS) {
                return false;
            }
            inItem = 0;
            return true;
        }

        private boolean takesMinus() {
            if (!wantsNumber() || minus) {
                return false;
            }
            minus = true;
            return true;
        }

        /** A second figure makes a number above 9, or one with a 0 ahead: never a good one. */
        private boolean takesNumber(int at) {
            if (!wantsNumber() || isFigure(at + 1)) {
                return false;
            }
            int value = letters[at] - '0';
            numbers[items * NUMBERS + inItem] = minus ? -value : value;
            inItem++;
            minus = false;
            return true;
        }

        private boolean endsItem() {
            if (inItem != NUMBERS) {
                return false;
            }
            items++;
            inItem = OUTSIDE;
            return true;
        }

        private boolean wantsNumber() {
            return items < MOST_ARCS && inItem >= 0 && inItem < NUMBERS;
        }

        private boolean isFigure(int at) {
            return at < length && letters[at] >= '0' && letters[at] <= '9';
        }
    }

    /** An ARC: its points as told, and of all its nodes the points, boxes and bands. */
    private static final class Arc {
        private final int[] told = new int[NUMBERS];
        /** Node m's points are at m times NUMBERS on; place 0 is not used. */
        private final int[] nodes = new int[(LAST_NODE + 1) * NUMBERS];
        /** Node m's least and greatest, at 4 m on: those of x, then those of y. */
        private final int[] boxes = new int[(LAST_NODE + 1) * 4];
        private final long[] bandFrom = new long[LAST_NODE + 1];
        private final long[] bandTo = new long[LAST_NODE + 1];

        private void takes(int[] numbers, int from) {
            System.arraycopy(numbers, from, told, 0, NUMBERS);
            halveAll();
        }

        private boolean canShift(int dx, int dy) {
            for (int i = 0; i < POINTS; i++) {
                if (!isCoordinate((long) told[2 * i] + dx)
                        || !isCoordinate((long) told[2 * i + 1] + dy)) {
                    return false;
                }
            }
            return true;
        }

        private void shiftAll(int dx, int dy) {
            for (int i = 0; i < POINTS; i++) {
                told[2 * i] += dx;
                told[2 * i + 1] += dy;
            }
            halveAll();
        }

        private void turnRound() {
            for (int i = 0; i < POINTS / 2; i++) {
                swap(2 * i, NUMBERS - 2 - 2 * i);
                swap(2 * i + 1, NUMBERS - 1 - 2 * i);
            }
            halveAll();
        }

        private void swap(int one, int other) {
            int value = told[one];
            told[one] = told[other];
            told[other] = value;
        }

        private void halveAll() {
            for (int k = 0; k < NUMBERS; k++) {
                nodes[NUMBERS + k] = told[k] * UNIT;
            }
            for (int node = 1; node < FIRST_DEEPEST_NODE; node++) {
                halve(node, 0);
                halve(node, 1);
            }
            for (int node = 1; node <= LAST_NODE; node++) {
                measureBox(node, 0);
                measureBox(node, 1);
                measureBand(node);
            }
        }

        private void halve(int node, int axis) {
            int p0 = at(node, 0, axis);
            int p1 = at(node, 1, axis);
            int p2 = at(node, 2, axis);
            int p3 = at(node, 3, axis);
            int p01 = (p0 + p1) / 2;
            int p12 = (p1 + p2) / 2;
            int p23 = (p2 + p3) / 2;
            int p012 = (p01 + p12) / 2;
            int p123 = (p12 + p23) / 2;
            int middle = (p012 + p123) / 2;
            int left = 2 * node * NUMBERS + axis;
            nodes[left] = p0;
            nodes[left + 2] = p01;
            nodes[left + 4] = p012;
            nodes[left + 6] = middle;
            int right = left + NUMBERS;
            nodes[right] = middle;
            nodes[right + 2] = p123;
            nodes[right + 4] = p23;
            nodes[right + 6] = p3;
        }

        private void measureBox(int node, int axis) {
            int least = at(node, 0, axis);
            int greatest = least;
            for (int i = 1; i < POINTS; i++) {
                least = Math.min(least, at(node, i, axis));
                greatest = Math.max(greatest, at(node, i, axis));
            }
            boxes[4 * node + 2 * axis] = least;
            boxes[4 * node + 2 * axis + 1] = greatest;
        }

        private void measureBand(int node) {
            bandFrom[node] = 0;
            bandTo[node] = 0;
            // Points 0 and 3 lie on the line, so their sides are the 0 from which it starts.
            for (int i = 1; i < POINTS - 1; i++) {
                long side = Pieces.side(this, node, this, node, i);
                bandFrom[node] = Math.min(bandFrom[node], side);
                bandTo[node] = Math.max(bandTo[node], side);
            }
        }

        private int at(int node, int i, int axis) {
            return nodes[node * NUMBERS + 2 * i + axis];
        }

        private int step(int node, int i, int axis) {
            int from = node * NUMBERS + 2 * i + axis;
            return nodes[from + 2] - nodes[from];
        }

        private int least(int node, int axis) {
            return boxes[4 * node + 2 * axis];
        }

        private int greatest(int node, int axis) {
            return boxes[4 * node + 2 * axis + 1];
        }

        private int areaParts() {
            int parts = 0;
            for (int i = 0; i < POINTS; i++) {
                for (int j = i + 1; j < POINTS; j++) {
                    int cross = told[2 * i] * told[2 * j + 1] - told[2 * i + 1] * told[2 * j];
                    parts += AREA_WEIGHTS[POINTS * i + j] * cross;
                }
            }
            return parts;
        }
    }

    /** What can be said of two nodes, m of an arc a and n of an arc b. */
    private static final class Pieces {
        /** CROSS of step i of node m of a and step j of node n of b. */
        private static long crossOfSteps(Arc a, int m, int i, Arc b, int n, int j) {
            return (long) a.step(m, i, 0) * b.step(n, j, 1) - (long) a.step(m, i, 1) * b.step(n, j, 0);
        }

        /** SIDE by node m of a of point i of node n of b. */
        private static long side(Arc a, int m, Arc b, int n, int i) {
            int begin = m * NUMBERS;
            int end = begin + NUMBERS - 2;
            int place = n * NUMBERS + 2 * i;
            int x = a.nodes[begin];
            int y = a.nodes[begin + 1];
            long alongX = a.nodes[end] - x;
            long alongY = a.nodes[end + 1] - y;
            return alongX * (b.nodes[place + 1] - y) - alongY * (b.nodes[place] - x);
        }

        /** 1 a place of that side is above the band of m, -1 below it, 0 in it. */
        private static int placeByBand(Arc a, int m, long side) {
            if (side > a.bandTo[m]) {
                return 1;
            }
            return side < a.bandFrom[m] ? -1 : 0;
        }

        private static int whyApart(Arc a, int m, Arc b, int n) {
            if (boxesApart(a, m, b, n, 0) || boxesApart(a, m, b, n, 1)) {
                return 1;
            }
            if (clears(a, m, b, n)) {
                return 2;
            }
            return clears(b, n, a, m) ? 3 : 0;
        }

        private static boolean boxesApart(Arc a, int m, Arc b, int n, int axis) {
            return a.greatest(m, axis) < b.least(n, axis) || b.greatest(n, axis) < a.least(m, axis);
        }

        private static boolean clears(Arc a, int m, Arc b, int n) {
            int place = placeByBand(a, m, side(a, m, b, n, 0));
            for (int i = 1; i < POINTS && place != 0; i++) {
                if (placeByBand(a, m, side(a, m, b, n, i)) != place) {
                    return false;
                }
            }
            return place != 0;
        }

        /** TURN. */
        private static int wayOfTurn(Arc a, int m, Arc b, int n) {
            int way = sign(crossOfSteps(a, m, 0, b, n, 0));
            for (int i = 0; i < STEPS && way != 0; i++) {
                for (int j = 0; j < STEPS; j++) {
                    if (sign(crossOfSteps(a, m, i, b, n, j)) != way) {
                        return 0;
                    }
                }
            }
            return way;
        }

        private static int sign(long number) {
            if (number > 0) {
                return 1;
            }
            return number < 0 ? -1 : 0;
        }

        /** The part of CROSSED that is not TURN. */
        private static boolean endsCross(Arc a, int m, Arc b, int n) {
            return endsBeside(a, m, b, n) && endsBeside(b, n, a, m);
        }

        /** One end of n is above the band of m, and one below it. */
        private static boolean endsBeside(Arc a, int m, Arc b, int n) {
            int beginning = placeByBand(a, m, side(a, m, b, n, 0));
            int end = placeByBand(a, m, side(a, m, b, n, POINTS - 1));
            return beginning * end < 0;
        }
    }

    /** MEETINGS and SPOTS of the two arcs asked for last, and how many spots any two have. */
    private static final class Meetings {
        private static final int NOBODY = -1;
        private static final int UNKNOWN = -1;
        private static final int TOLD = 6;

        private final int[] nodeOfP = new int[MOST_MEETINGS + 1];
        private final int[] nodeOfQ = new int[MOST_MEETINGS + 1];
        private final boolean[] certain = new boolean[MOST_MEETINGS + 1];
        private final int[] way = new int[MOST_MEETINGS + 1];
        private final int[] spotOf = new int[MOST_MEETINGS + 1];
        private int size = 0;
        private int crossings = 0;
        private int spots = 0;
        /** What is told of spot k, at TOLD times k on, in the order of what. */
        private final int[] tellings = new int[MOST_MEETINGS * TOLD];
        /** The doubts of one spot, while they are gathered. */
        private final int[] gathered = new int[MOST_MEETINGS];
        private int p = NOBODY;
        private int q = NOBODY;
        /** By 4 p and q together; a search is dear, and busiest and unseen need many. */
        private final int[] known = new int[MOST_ARCS * MOST_ARCS];

        private void outdate() {
            p = NOBODY;
            q = NOBODY;
            for (int k = 0; k < MOST_ARCS * MOST_ARCS; k++) {
                known[k] = UNKNOWN;
            }
        }

        private boolean isOver() {
            return size > MOST_MEETINGS;
        }

        private int tellSpot(int k, int what) {
            return tellings[k * TOLD + what];
        }

        /** SPOTS as BUSIEST and SEEN have them: an arc has none with itself. */
        private int countSpots(Arc[] arcs, int one, int other) {
            if (one == other) {
                return 0;
            }
            if (known[MOST_ARCS * one + other] == UNKNOWN) {
                find(arcs, one, other);
                int answer = isOver() ? SPOTS_IF_OVER : spots;
                // Halving treats both arcs alike, so the other order has just as many.
                known[MOST_ARCS * one + other] = answer;
                known[MOST_ARCS * other + one] = answer;
            }
            return known[MOST_ARCS * one + other];
        }

        private void find(Arc[] arcs, int one, int other) {
            if (p == one && q == other) {
                return;
            }
            p = one;
            q = other;
            size = 0;
            crossings = 0;
            spots = 0;
            search(this, arcs[one], 1, arcs[other], 1, 0);
            if (!isOver()) {
                gatherSpots();
            }
        }

        private static void search(Meetings found, Arc a, int m, Arc b, int n, int deep) {
            if (found.isOver() || Pieces.whyApart(a, m, b, n) != 0) {
                return;
            }
            int way = Pieces.wayOfTurn(a, m, b, n);
            boolean crossed = way != 0 && Pieces.endsCross(a, m, b, n);
            if (crossed || deep >= DEEPEST) {
                found.adds(m, n, way, crossed);
                return;
            }
            for (int i = 0; i < 2; i++) {
                for (int j = 0; j < 2; j++) {
                    search(found, a, 2 * m + i, b, 2 * n + j, deep + 1);
                }
            }
        }

        private void adds(int m, int n, int turned, boolean crossed) {
            if (isOver()) {
                return;
            }
            nodeOfP[size] = m;
            nodeOfQ[size] = n;
            way[size] = turned;
            certain[size] = crossed;
            spotOf[size] = NOBODY;
            size++;
            if (crossed) {
                crossings++;
            }
        }

        private void gatherSpots() {
            for (int k = 0; k < size; k++) {
                if (spotOf[k] == NOBODY) {
                    tell(gather(k));
                    spots++;
                }
            }
        }

        /** The meetings of the spot whose first one is this: how many. */
        private int gather(int first) {
            spotOf[first] = spots;
            gathered[0] = first;
            int members = 1;
            // members grows on the way, but never beyond size.
            for (int k = 0; k < size && k < members && !certain[first]; k++) {
                for (int other = first + 1; other < size; other++) {
                    if (spotOf[other] == NOBODY && hangTogether(gathered[k], other)) {
                        spotOf[other] = spots;
                        gathered[members] = other;
                        members++;
                    }
                }
            }
            return members;
        }

        private boolean hangTogether(int one, int other) {
            return !certain[one] && !certain[other]
                    && Math.abs(nodeOfP[one] - nodeOfP[other]) <= 1
                    && Math.abs(nodeOfQ[one] - nodeOfQ[other]) <= 1;
        }

        private void tell(int members) {
            int at = spots * TOLD;
            tellings[at] = kind(members);
            tellings[at + 1] = members;
            tellStretch(at + 2, nodeOfP, members);
            tellStretch(at + 4, nodeOfQ, members);
        }

        private int kind(int members) {
            int first = gathered[0];
            if (certain[first]) {
                return 0;
            }
            boolean same = way[first] != 0;
            for (int k = 1; k < members; k++) {
                same = same && way[gathered[k]] == way[first];
            }
            if (same) {
                return 1;
            }
            return members < DOUBTS_OF_AN_OVERLAP ? 2 : 3;
        }

        private void tellStretch(int at, int[] nodeOf, int members) {
            int from = FIRST_DEEPEST_NODE;
            int to = 0;
            for (int k = 0; k < members; k++) {
                int node = nodeOf[gathered[k]];
                int width = width(node);
                int beginning = node * width - FIRST_DEEPEST_NODE;
                from = Math.min(from, beginning);
                to = Math.max(to, beginning + width);
            }
            tellings[at] = from;
            tellings[at + 1] = to;
        }

        /** How many 32nds of its arc a node is. */
        private static int width(int node) {
            int width = 1;
            for (int k = 0; k < DEEPEST && node * width < FIRST_DEEPEST_NODE; k++) {
                width *= 2;
            }
            return width;
        }
    }

    /** What may be undone: whole arcs as they were, the latest last. */
    private static final class History {
        private final int[] whose = new int[MOST_UNDONE];
        private final int[] numbers = new int[MOST_UNDONE * NUMBERS];
        private int size = 0;

        private void adds(int arc, int[] told) {
            if (size >= MOST_UNDONE) {
                loseOldest();
            }
            whose[size] = arc;
            System.arraycopy(told, 0, numbers, size * NUMBERS, NUMBERS);
            size++;
        }

        private void loseOldest() {
            size = MOST_UNDONE - 1;
            System.arraycopy(whose, 1, whose, 0, size);
            System.arraycopy(numbers, NUMBERS, numbers, 0, size * NUMBERS);
        }
    }

    /** SEEN: with whom the unknown arc has how many spots. */
    private static final class Sightings {
        private final int[] whom = new int[MOST_SEEN];
        private final int[] howMany = new int[MOST_SEEN];
        private int size = 0;

        private int adds(int arc, int spots) {
            if (size < MOST_SEEN) {
                whom[size] = arc;
                howMany[size] = spots;
                size++;
            }
            return size;
        }
    }

    /** IMAGES; they go when the text is read anew, so they have as many arcs as there are. */
    private static final class Images {
        private final boolean[] kept = new boolean[MOST_IMAGES];
        private final int[] numbers = new int[MOST_IMAGES * MOST_ARCS * NUMBERS];

        private static int place(int image, int arc) {
            return (image * MOST_ARCS + arc) * NUMBERS;
        }

        private void drop() {
            for (int k = 0; k < MOST_IMAGES; k++) {
                kept[k] = false;
            }
        }
    }
}
