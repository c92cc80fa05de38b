/** The findings, and the arguments behind the edges, as the tests name them. */
interface Findings {
    int BAD = -1002;
    int NONE = -1003;
    int CLASHED = -1004;
    int NOTHING = -1010;
    int PLACE = -1011;
    int SORT = -1012;
    int SIZE = -1013;
    int WRONG = -1100;
    int LEAST = Integer.MIN_VALUE;
    int MOST = Integer.MAX_VALUE;
    int[] NO_SCENES = {-1, 20, LEAST, MOST};
    int[] NO_CHOICES = {-1, 6, LEAST, MOST};
    int[] NO_SETS = {-1, 256, LEAST, MOST};
    /** The number under which the sentences of the terms are told; those of a promise are told under its own. */
    int TERMS = 0;
}
