/** What answers the document's calls by their names. */
interface Caller {
    long call(String name, long... args);
}
