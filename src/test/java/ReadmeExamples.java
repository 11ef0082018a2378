import java.io.IOException;
import java.lang.reflect.Method;
import java.lang.reflect.Modifier;
import java.nio.file.Files;
import java.nio.file.Path;
import java.util.List;

/**
 * Makes a test, ReadmeRuns, out of the examples of README.md: each row is asked as it stands there, and its answer is
 * held against what stands behind //. A row without an answer, or a call of the face without a row, is refused.
 */
public final class ReadmeExamples {
    private static final String BEGIN = """
        import java.util.NoSuchElementException;

        public final class ReadmeRuns {
            private static final int NONE = DateVale.NONE;
            private static int asked;
            private static int wrong;

            /** An int is not alike a boolean here, as it is not in README.md. */
            private static void due(String row, Object got, Object want) {
                asked++;
                if (!got.equals(want)) {
                    wrong++;
                    System.out.println(row + " answered " + got + ", README.md says " + want);
                }
            }

        """;
    private static final String END = """
                System.out.println("ReadmeRuns: " + asked + " answers, " + wrong + " not as README.md says");
                System.exit(wrong == 0 && asked > 0 ? 0 : 1);
            }
        }
        """;
    private static final String THROWS = "throws ";

    private final StringBuilder helpers = new StringBuilder();
    private final StringBuilder rows = new StringBuilder();
    private final StringBuilder statement = new StringBuilder();
    private int refused;

    public static void main(String[] args) throws IOException {
        if (args.length != 2) {
            System.out.println("ReadmeExamples: README.md, and the file to be written");
            System.exit(1);
        }
        ReadmeExamples examples = new ReadmeExamples();
        examples.readAll(Files.readAllLines(Path.of(args[0])));
        examples.missFace();
        String main = "    public static void main(String[] args) {\n";
        Files.writeString(Path.of(args[1]), BEGIN + examples.helpers + main + examples.rows + END);
        System.exit(examples.refused == 0 ? 0 : 1);
    }

    private void readAll(List<String> lines) {
        boolean inside = false;
        boolean helping = false;
        for (int at = 0; at < lines.size(); at++) {
            String line = lines.get(at);
            if (!inside && line.equals("```java")) {
                inside = true;
                helping = at + 1 < lines.size() && lines.get(at + 1).startsWith("/**");
            } else if (inside && line.equals("```")) {
                inside = false;
                if (!statement.isEmpty()) {
                    refuse(at, "a row has no end");
                }
            } else if (inside && helping) {
                helpers.append("    ").append(line).append('\n');
            } else if (inside) {
                readRow(at, line);
            }
        }
    }

    /** A row goes over lines until one ends with ; outside of a text. */
    private void readRow(int at, String line) {
        String bare = withoutTexts(line);
        int slashes = bare.indexOf("//");
        String code = (slashes < 0 ? line : line.substring(0, slashes)).trim();
        String told = slashes < 0 ? "" : line.substring(slashes + 2).trim();
        statement.append(code);
        if (!withoutTexts(code).endsWith(";")) {
            return;
        }
        String row = statement.substring(0, statement.length() - 1);
        statement.setLength(0);
        int colon = told.indexOf(':');
        addRow(at, row, colon < 0 ? told : told.substring(0, colon));
    }

    private void addRow(int at, String row, String answer) {
        String label = "\"README.md, line " + (at + 1) + ": " + row.replace("\\", "\\\\").replace("\"", "\\\"") + "\"";
        if (row.contains(" = new ")) {
            rows.append(row).append(";\n");
        } else if (answer.isEmpty()) {
            refuse(at, "no answer behind //");
        } else if (answer.startsWith(THROWS)) {
            String thrown = answer.substring(THROWS.length());
            rows.append("try { due(").append(label).append(", ").append(row).append(", \"").append(answer)
                .append("\"); } catch (").append(thrown).append(" due) { asked++; }\n");
        } else {
            rows.append("due(").append(label).append(", ").append(row).append(", ").append(answer).append(");\n");
        }
    }

    /** The same length, so that places in it are places in the line. */
    private static String withoutTexts(String line) {
        StringBuilder bare = new StringBuilder();
        boolean inText = false;
        for (int at = 0; at < line.length(); at++) {
            char sign = line.charAt(at);
            boolean quote = sign == '"' && (at == 0 || line.charAt(at - 1) != '\\');
            bare.append(inText || quote ? '_' : sign);
            inText ^= quote;
            if (!inText && bare.indexOf("//") >= 0) {
                return bare.append(line.substring(at + 1)).toString();
            }
        }
        return bare.toString();
    }

    private void missFace() {
        for (Method method : DateVale.class.getDeclaredMethods()) {
            if (Modifier.isPublic(method.getModifiers()) && rows.indexOf("vale." + method.getName() + "(") < 0) {
                refuse(-1, "no example calls " + method.getName());
            }
        }
    }

    private void refuse(int at, String why) {
        refused++;
        System.out.println("README.md" + (at < 0 ? "" : ", line " + (at + 1)) + ": " + why);
    }
}
