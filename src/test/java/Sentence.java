import java.lang.annotation.ElementType;
import java.lang.annotation.Retention;
import java.lang.annotation.RetentionPolicy;
import java.lang.annotation.Target;

/**
 * The sentence of the document that a test holds, word by word (or a part of it), and the promise in which it
 * stands; 0 for what stands ahead of the promises. SentencesTest holds these against the document.
 */
@Retention(RetentionPolicy.RUNTIME)
@Target(ElementType.METHOD)
@interface Sentence {
    int promise() default 0;

    String value();
}
