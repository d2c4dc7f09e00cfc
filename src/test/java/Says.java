import java.lang.annotation.ElementType;
import java.lang.annotation.Retention;
import java.lang.annotation.RetentionPolicy;
import java.lang.annotation.Target;

/** The sentence of ../shared/DOC.md that a test holds the class against. */
@Retention(RetentionPolicy.RUNTIME)
@Target(ElementType.METHOD)
@interface Says {
    /** The part of the document, as Document names it: "Promise 2", "Terms 1", "Answers", "In doubt", "Constants". */
    String in();

    /** The sentence's own words. */
    String words();
}
