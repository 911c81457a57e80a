/** The calls of the face by name, with the bounds of each of their numbers, on the program and on the model. */
enum Calls {
    HANG(-2, 0, 3, -1000, 1000, -1000, 1000, -1000, 1000, -1000, 1000, 50, 1000, 50, 1000, 50, 1000, -1, 1),
    WHEEL(-2, 0, 3, -1000, 1000, -1000, 1000),
    SPRING(-2, 0, 3, -1000, 1000, -1000, 1000, 0, 1000),
    MIRROR(-2, 0, 3, 0, 3),
    POSE(-2, 0, 3, -1000, 1000, 0, 11),
    LOCK(-2000, 0, 3, -1000, 1000, -1000, 1000),
    WEIGHT(-2, 0, 100000, 0, 1000, -500, 500),
    PUSH(-2, -100000, 100000, 0, 1000),
    CARRIES(-2000000, 0, 3),
    SHIM(-2, 1, 500),
    BEST(-2, 0, 2000, 0, 3),
    READING(-2, -1000, 1000, -5000, 5000),
    CLEAR(-2),
    OFF(-2, 0, 3),
    FOUND(-2, 0, 3, 0, 3, 0, 2),
    ISCLEAR(-2, 0, 3, -1000, 1000, -1000, 1000, 0, 500, -1000, 1000, -1000, 1000),
    COUNT(-2, 0, 1),
    DIGEST(-2);

    static final Calls[] ALL = values();

    final int bad;
    private final int[] bounds;

    Calls(int bad, int... bounds) {
        this.bad = bad;
        this.bounds = bounds;
    }

    int numbers() {
        return bounds.length / 2;
    }

    int least(int number) {
        return bounds[2 * number];
    }

    int most(int number) {
        return bounds[2 * number + 1];
    }

    long ask(WheelSwing x, int[] v) {
        switch (this) {
            case HANG: return x.hang(v[0], v[1], v[2], v[3], v[4], v[5], v[6], v[7], v[8]);
            case WHEEL: return x.wheel(v[0], v[1], v[2]);
            case SPRING: return x.spring(v[0], v[1], v[2], v[3]);
            case MIRROR: return x.mirror(v[0], v[1]);
            case POSE: return x.pose(v[0], v[1], v[2]);
            case LOCK: return x.lock(v[0], v[1], v[2]);
            case WEIGHT: return x.weight(v[0], v[1], v[2]);
            case PUSH: return x.push(v[0], v[1]);
            case CARRIES: return x.carries(v[0]);
            case SHIM: return x.shim(v[0]);
            case BEST: return x.best(v[0], v[1]);
            case READING: return x.reading(v[0], v[1]);
            case CLEAR: return x.clear();
            case OFF: return x.off(v[0]);
            case FOUND: return x.found(v[0], v[1], v[2]);
            case ISCLEAR: return x.isClear(v[0], v[1], v[2], v[3], v[4], v[5]);
            case COUNT: return x.count(v[0]);
            default: return x.digest();
        }
    }

    long ask(Model x, int[] v) {
        switch (this) {
            case HANG: return x.hang(v);
            case WHEEL: return x.wheel(v);
            case SPRING: return x.spring(v);
            case MIRROR: return x.mirror(v);
            case POSE: return x.pose(v[0], v[1], v[2]);
            case LOCK: return x.lock(v[0], v[1], v[2]);
            case WEIGHT: return x.weight(v);
            case PUSH: return x.push(v);
            case CARRIES: return x.carries(v[0]);
            case SHIM: return x.shim(v[0]);
            case BEST: return x.best(v[0], v[1]);
            case READING: return x.reading(v[0], v[1]);
            case CLEAR: return x.clear();
            case OFF: return x.off(v[0]);
            case FOUND: return x.found(v[0], v[1], v[2]);
            case ISCLEAR: return x.isClear(v);
            case COUNT: return x.count(v[0]);
            default: return x.digest();
        }
    }
}
