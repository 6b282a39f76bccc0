import java.lang.annotation.ElementType;
import java.lang.annotation.Repeatable;
import java.lang.annotation.Retention;
import java.lang.annotation.RetentionPolicy;
import java.lang.annotation.Target;

/** The words of the document that a method tests; DocTest sees that all of its words are tested somewhere. */
@Retention(RetentionPolicy.RUNTIME)
@Target(ElementType.METHOD)
@Repeatable(Says.List.class)
@interface Says {
    /** Where they stand: a heading of the terms, "constants", or what a promise is called. */
    String in();

    String[] value();

    @Retention(RetentionPolicy.RUNTIME)
    @Target(ElementType.METHOD)
    @interface List {
        Says[] value();
    }
}
