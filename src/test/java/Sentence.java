import java.lang.annotation.ElementType;
import java.lang.annotation.Retention;
import java.lang.annotation.RetentionPolicy;
import java.lang.annotation.Target;

/** Marks a test of what the document says: where it says it, and its words, as they stand there. */
@Retention(RetentionPolicy.RUNTIME)
@Target(ElementType.METHOD)
@interface Sentence {
    /** A promise, as "Promise 6", or a paragraph of the terms, as "Clocks". */
    String of();

    String[] says();

    /** For the terms: the promises on which the test looks. */
    int[] promise() default {};
}
