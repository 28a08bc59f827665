/** The document's constants by their numbers, so that a wrong constant of the class cannot hide. */
interface Answers {
    int NONE = -1;
    int UNKNOWN = -1000000001;
    int OUTSIDE = -1000000002;
    int NOT = -1000000003;
    int FULL = -1000000004;
    int LEAST = Integer.MIN_VALUE;
    int MOST = Integer.MAX_VALUE;
}
