/** Puts texts onto the tape, eight bytes a call. */
final class Texts {
    private Texts() {
    }

    static void lay(ValleyGuides guides, String text) {
        guides.end(0);
        for (int i = 0; i < text.length(); i += 8) {
            guides.feed(eight(text, i));
        }
        guides.end(text.length());
    }

    /** Lays a text on the tape and tells it. */
    static int tell(ValleyGuides guides, String text) {
        lay(guides, text);
        return guides.text();
    }

    static long eight(String text, int from) {
        long bytes = 0;
        for (int i = from; i < from + 8; i++) {
            int next = i < text.length() ? text.charAt(i) & 255 : ' ';
            bytes = bytes << 8 | next;
        }
        return bytes;
    }
}
