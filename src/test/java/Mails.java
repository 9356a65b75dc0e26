/** Mails that several tests are made of. */
final class Mails {
    /** The HEAD of a MULTI whose boundary is b. */
    static final String HEAD = "Content-Type: multipart/a; boundary=b\n\n";

    private Mails() { }

    /** A MULTI of such parts, closed, without a last 10. */
    static String multi(String kind, String boundary, String... parts) {
        StringBuilder text = new StringBuilder("Content-Type: multipart/" + kind + "; boundary=\"" + boundary + "\"\n\n");
        for (String part : parts) {
            text.append("--").append(boundary).append("\n").append(part).append("\n");
        }
        return text.append("--").append(boundary).append("--").toString();
    }

    static String leaf(String type) {
        return "Content-Type: " + type + "\n\nx";
    }

    static String enclosed(String inside) {
        return "Content-Type: message/rfc822\n\n" + inside;
    }

    /** Messages in messages, so many, and what the last one encloses. */
    static String enclosures(int many, String inside) {
        return "Content-Type: message/rfc822\n\n".repeat(many) + inside;
    }

    /** Boundaries in boundaries, so many, each with one part. */
    static String multis(int many) {
        StringBuilder text = new StringBuilder();
        for (int i = 0; i < many; i++) {
            text.append("Content-Type: multipart/a; boundary=").append(i).append("\n\n--").append(i).append("\n");
        }
        return text.toString();
    }
}
