import java.io.File;
import java.nio.file.Files;
import java.nio.file.Path;
import java.util.ArrayList;
import java.util.Comparator;
import java.util.LinkedHashMap;
import java.util.List;
import java.util.Map;

/** Each sentence of the document's terms and promises has its tests, in the document's own words. */
public final class SentencesTest {
    private static final String OF_SECTIONS = "(WhatItIs|Terms\\w+|Promise\\d\\d)Test\\.java";

    private static int wrong = 0;

    public static void main(String[] args) throws Exception {
        Path document = Path.of(args[0], "..", "shared", "DOC.md");
        if (!Files.exists(document)) {
            System.out.println("there is no document to compare with");
            return;
        }
        Map<String, String> texts = texts(Files.readAllLines(document));
        Map<String, List<String>> sentences = sentences(new File(args[0], "src/test/java"));
        for (String title : sentences.keySet()) {
            if (!texts.containsKey(title)) {
                say("the document has no section '" + title + "'");
            }
        }
        for (String title : texts.keySet()) {
            compare(title, texts.get(title), sentences.getOrDefault(title, List.of()));
        }
        if (wrong != 0) {
            System.exit(1);
        }
    }

    private static void say(String line) {
        wrong++;
        System.out.println(line);
    }

    /** The sections of the document by their titles, each in one line. */
    private static Map<String, String> texts(List<String> lines) {
        Map<String, String> texts = new LinkedHashMap<>();
        String title = "";
        for (String line : lines) {
            if (line.startsWith("## ")) {
                title = line.substring(3).strip();
                texts.put(title, "");
            } else if (!line.startsWith("#")) {
                texts.merge(title, line, (text, more) -> (text + " " + more).strip().replaceAll("\\s+", " "));
            }
        }
        return texts;
    }

    /** What the tests hold, by the titles of the sections. */
    private static Map<String, List<String>> sentences(File tests) throws Exception {
        Map<String, List<String>> sentences = new LinkedHashMap<>();
        for (String file : tests.list((folder, name) -> name.matches(OF_SECTIONS))) {
            Class<?> test = Class.forName(file.replace(".java", ""));
            Section section = (Section) test.getDeclaredMethod("section").invoke(null);
            sentences.computeIfAbsent(section.title(), title -> new ArrayList<>()).addAll(section.sentences());
        }
        return sentences;
    }

    private static void compare(String title, String text, List<String> sentences) {
        List<String> longestFirst = new ArrayList<>(sentences);
        longestFirst.sort(Comparator.comparing(String::length).reversed());
        String rest = text;
        for (String sentence : longestFirst) {
            if (!text.contains(sentence)) {
                say(title + " does not say: " + sentence);
            }
            rest = rest.replace(sentence, " ... ");
        }
        boolean isPromised = title.equals("Terms") || title.startsWith("Promise ");
        String untold = rest.replaceAll("`[^`]*`:?", " ").replaceAll("\\s+", " ").strip();
        if (isPromised && untold.matches(".*[A-Za-z0-9].*")) {
            say(title + ", without a test: " + untold);
        }
    }
}
