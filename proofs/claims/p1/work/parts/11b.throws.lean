section
/-! ===== what is thrown, and where ===== -/
def xx_sl : List (String × Nat × String) := [("Wavesale", 74, "there is no room for another region"), ("Wavesale", 92, "a region is no neighbour of itself"), ("Wavesale", 103, "there is no room for another bidder"), ("Wavesale", 116, "the clock is over"), ("Wavesale", 118, "a clock needs a region and a bidder"), ("Wavesale", 131, "more than the bidder may wish"), ("Wavesale", 156, "the bidder has no waiver for this round"), ("Wavesale", 171, "no such bundle, or an amount below 0"), ("Wavesale", 180, "the bidder may not tell this package"), ("Wavesale", 203, "the bidder is no winner"), ("Wavesale", 218, "there is no room for another station"), ("Wavesale", 270, "there is no such package"), ("Wavesale", 288, "there is no such block"), ("Wavesale", 367, "a number is outside of its bounds"), ("Wavesale", 369, "the set has one that is not there"), ("Wavesale", 371, "this belongs to another stage"), ("Wavesale", 373, "there is no such region"), ("Wavesale", 375, "there is no such bidder"), ("Wavesale", 377, "there is no such station"), ("Wavesale", 382, "the log has no such round")]
theorem xx_sl_ok : ∀ q ∈ xx_sl, q ∈ xx_strs := by decide +kernel
def xx_dcl : List Cond := [(Jvm.Cond.declares ({ cls := "java/lang/Exception", name := "<init>", desc := "()V" } : Jvm.MethodName)), (Jvm.Cond.declares ({ cls := "java/lang/Exception", name := "<init>", desc := "(Ljava/lang/String;)V" } : Jvm.MethodName)), (Jvm.Cond.declares ({ cls := "java/lang/IndexOutOfBoundsException", name := "<init>", desc := "()V" } : Jvm.MethodName)), (Jvm.Cond.declares ({ cls := "java/lang/IndexOutOfBoundsException", name := "<init>", desc := "(Ljava/lang/String;)V" } : Jvm.MethodName)), (Jvm.Cond.declares ({ cls := "java/lang/Object", name := "getClass", desc := "()Ljava/lang/Class;" } : Jvm.MethodName)), (Jvm.Cond.declares ({ cls := "java/lang/RuntimeException", name := "<init>", desc := "()V" } : Jvm.MethodName)), (Jvm.Cond.declares ({ cls := "java/lang/RuntimeException", name := "<init>", desc := "(Ljava/lang/String;)V" } : Jvm.MethodName)), (Jvm.Cond.declares ({ cls := "java/lang/Throwable", name := "<init>", desc := "()V" } : Jvm.MethodName)), (Jvm.Cond.declares ({ cls := "java/lang/Throwable", name := "<init>", desc := "(Ljava/lang/String;)V" } : Jvm.MethodName)), (Jvm.Cond.declares ({ cls := "java/util/Iterator", name := "hasNext", desc := "()Z" } : Jvm.MethodName)), (Jvm.Cond.declares ({ cls := "java/util/Iterator", name := "next", desc := "()Ljava/lang/Object;" } : Jvm.MethodName))]
theorem xx_dcl_ok : ∀ w ∈ xx_dcl, w ∈ xx_nws := by decide +kernel
def gwl_EX : List Cond := [(Jvm.Cond.initialized "java/lang/Throwable"), (Jvm.Cond.initialized "java/lang/Exception"), (Jvm.Cond.initialized "java/lang/RuntimeException"), (Jvm.Cond.initialized "java/lang/IllegalArgumentException"), (Jvm.Cond.initialized "java/lang/IllegalStateException"), (Jvm.Cond.initialized "java/lang/IndexOutOfBoundsException"), (Jvm.Cond.methodLink "Wavesale" (3 : Nat) ({ cls := "java/lang/Object", name := "<init>", desc := "()V" } : Jvm.MethodName)), (Jvm.Cond.instanceMethod ({ cls := "java/lang/Object", name := "<init>", desc := "()V" } : Jvm.MethodName)), (Jvm.Cond.code ({ cls := "java/lang/Object", name := "<init>", desc := "()V" } : Jvm.MethodName) object_method_1_code (1 : Nat) (Option.none : Option Jvm.ClassFile.FieldType)), (Jvm.Cond.methodLink "Wavesale$Terms" (3 : Nat) ({ cls := "java/lang/Object", name := "<init>", desc := "()V" } : Jvm.MethodName)), (Jvm.Cond.methodLink "Wavesale$Clock" (3 : Nat) ({ cls := "java/lang/Object", name := "<init>", desc := "()V" } : Jvm.MethodName)), (Jvm.Cond.methodLink "Wavesale$Market" (3 : Nat) ({ cls := "java/lang/Object", name := "<init>", desc := "()V" } : Jvm.MethodName)), (Jvm.Cond.methodLink "Wavesale$Payments" (3 : Nat) ({ cls := "java/lang/Object", name := "<init>", desc := "()V" } : Jvm.MethodName)), (Jvm.Cond.methodLink "Wavesale$Names" (3 : Nat) ({ cls := "java/lang/Object", name := "<init>", desc := "()V" } : Jvm.MethodName)), (Jvm.Cond.methodLink "Wavesale$Stations" (3 : Nat) ({ cls := "java/lang/Object", name := "<init>", desc := "()V" } : Jvm.MethodName)), (Jvm.Cond.methodLink "java/lang/AbstractStringBuilder" (3 : Nat) ({ cls := "java/lang/Object", name := "<init>", desc := "()V" } : Jvm.MethodName)), (Jvm.Cond.methodLink "java/lang/String" (1 : Nat) ({ cls := "java/lang/Object", name := "<init>", desc := "()V" } : Jvm.MethodName)), (Jvm.Cond.classLink "java/util/Arrays" (43 : Nat) "java/lang/IllegalArgumentException"), (Jvm.Cond.instantiable "java/lang/IllegalArgumentException" (6 : Nat)), (Jvm.Cond.castable "java/lang/IllegalArgumentException" "java/lang/IllegalArgumentException"), (Jvm.Cond.declares ({ cls := "java/lang/RuntimeException", name := "<init>", desc := "()V" } : Jvm.MethodName)), (Jvm.Cond.declares ({ cls := "java/lang/RuntimeException", name := "<init>", desc := "(Ljava/lang/String;)V" } : Jvm.MethodName)), (Jvm.Cond.declares ({ cls := "java/lang/Exception", name := "<init>", desc := "()V" } : Jvm.MethodName)), (Jvm.Cond.declares ({ cls := "java/lang/Exception", name := "<init>", desc := "(Ljava/lang/String;)V" } : Jvm.MethodName)), (Jvm.Cond.declares ({ cls := "java/lang/Throwable", name := "<init>", desc := "()V" } : Jvm.MethodName)), (Jvm.Cond.declares ({ cls := "java/lang/Throwable", name := "<init>", desc := "(Ljava/lang/String;)V" } : Jvm.MethodName)), (Jvm.Cond.selects "java/lang/IllegalArgumentException" ({ cls := "java/lang/Throwable", name := "fillInStackTrace", desc := "(I)Ljava/lang/Throwable;" } : Jvm.MethodName) ({ cls := "java/lang/Throwable", name := "fillInStackTrace", desc := "(I)Ljava/lang/Throwable;" } : Jvm.MethodName)), (Jvm.Cond.selects "java/lang/IllegalArgumentException" ({ cls := "java/lang/Throwable", name := "fillInStackTrace", desc := "()Ljava/lang/Throwable;" } : Jvm.MethodName) ({ cls := "java/lang/Throwable", name := "fillInStackTrace", desc := "()Ljava/lang/Throwable;" } : Jvm.MethodName)), (Jvm.Cond.lays "java/lang/IllegalArgumentException" "java/lang/Throwable" "cause" "Ljava/lang/Throwable;"), (Jvm.Cond.lays "java/lang/Throwable" "java/lang/Throwable" "cause" "Ljava/lang/Throwable;"), (Jvm.Cond.lays "java/lang/IllegalArgumentException" "java/lang/Throwable" "stackTrace" "[Ljava/lang/StackTraceElement;"), (Jvm.Cond.lays "java/lang/Throwable" "java/lang/Throwable" "stackTrace" "[Ljava/lang/StackTraceElement;"), (Jvm.Cond.lays "java/lang/IllegalArgumentException" "java/lang/Throwable" "suppressedExceptions" "Ljava/util/List;"), (Jvm.Cond.lays "java/lang/Throwable" "java/lang/Throwable" "suppressedExceptions" "Ljava/util/List;"), (Jvm.Cond.lays "java/lang/IllegalArgumentException" "java/lang/Throwable" "detailMessage" "Ljava/lang/String;"), (Jvm.Cond.lays "java/lang/Throwable" "java/lang/Throwable" "detailMessage" "Ljava/lang/String;"), (Jvm.Cond.lays "java/lang/IllegalArgumentException" "java/lang/Throwable" "backtrace" "Ljava/lang/Object;"), (Jvm.Cond.lays "java/lang/Throwable" "java/lang/Throwable" "backtrace" "Ljava/lang/Object;"), (Jvm.Cond.fieldLink "java/lang/Throwable" (198 : Nat) "java/lang/Throwable" "backtrace" "Ljava/lang/Object;"), (Jvm.Cond.superclass "java/lang/Throwable" "java/lang/Object"), (Jvm.Cond.instanceMethod ({ cls := "java/lang/Throwable", name := "<init>", desc := "()V" } : Jvm.MethodName)), (Jvm.Cond.code ({ cls := "java/lang/Throwable", name := "<init>", desc := "()V" } : Jvm.MethodName) prog_40_method_1_code (1 : Nat) (Option.none : Option Jvm.ClassFile.FieldType)), (Jvm.Cond.methodLink "java/lang/Throwable" (1 : Nat) ({ cls := "java/lang/Object", name := "<init>", desc := "()V" } : Jvm.MethodName)), (Jvm.Cond.fieldLink "java/lang/Throwable" (13 : Nat) "java/lang/Throwable" "UNASSIGNED_STACK" "[Ljava/lang/StackTraceElement;"), (Jvm.Cond.fieldLink "java/lang/Throwable" (20 : Nat) "java/lang/Throwable" "SUPPRESSED_SENTINEL" "Ljava/util/List;"), (Jvm.Cond.methodLink "java/lang/Throwable" (27 : Nat) ({ cls := "java/lang/Throwable", name := "fillInStackTrace", desc := "()Ljava/lang/Throwable;" } : Jvm.MethodName)), (Jvm.Cond.instanceMethod ({ cls := "java/lang/Throwable", name := "fillInStackTrace", desc := "()Ljava/lang/Throwable;" } : Jvm.MethodName)), (Jvm.Cond.sameMethod "java/lang/Throwable" "java/lang/Throwable" "fillInStackTrace" "()Ljava/lang/Throwable;"), (Jvm.Cond.selects "java/lang/ArrayIndexOutOfBoundsException" ({ cls := "java/lang/Throwable", name := "fillInStackTrace", desc := "()Ljava/lang/Throwable;" } : Jvm.MethodName) ({ cls := "java/lang/Throwable", name := "fillInStackTrace", desc := "()Ljava/lang/Throwable;" } : Jvm.MethodName)), (Jvm.Cond.selects "java/lang/IllegalStateException" ({ cls := "java/lang/Throwable", name := "fillInStackTrace", desc := "()Ljava/lang/Throwable;" } : Jvm.MethodName) ({ cls := "java/lang/Throwable", name := "fillInStackTrace", desc := "()Ljava/lang/Throwable;" } : Jvm.MethodName)), (Jvm.Cond.selects "java/lang/IndexOutOfBoundsException" ({ cls := "java/lang/Throwable", name := "fillInStackTrace", desc := "()Ljava/lang/Throwable;" } : Jvm.MethodName) ({ cls := "java/lang/Throwable", name := "fillInStackTrace", desc := "()Ljava/lang/Throwable;" } : Jvm.MethodName)), (Jvm.Cond.selects "java/lang/StringIndexOutOfBoundsException" ({ cls := "java/lang/Throwable", name := "fillInStackTrace", desc := "()Ljava/lang/Throwable;" } : Jvm.MethodName) ({ cls := "java/lang/Throwable", name := "fillInStackTrace", desc := "()Ljava/lang/Throwable;" } : Jvm.MethodName)), (Jvm.Cond.codeSync ({ cls := "java/lang/Throwable", name := "fillInStackTrace", desc := "()Ljava/lang/Throwable;" } : Jvm.MethodName) prog_40_method_18_code (1 : Nat) (Option.some (Jvm.ClassFile.FieldType.object "java/lang/Throwable"))), (Jvm.Cond.methodLink "java/lang/Throwable" (202 : Nat) ({ cls := "java/lang/Throwable", name := "fillInStackTrace", desc := "(I)Ljava/lang/Throwable;" } : Jvm.MethodName)), (Jvm.Cond.privateMethod ({ cls := "java/lang/Throwable", name := "fillInStackTrace", desc := "(I)Ljava/lang/Throwable;" } : Jvm.MethodName)), (Jvm.Cond.instanceMethod ({ cls := "java/lang/Throwable", name := "fillInStackTrace", desc := "(I)Ljava/lang/Throwable;" } : Jvm.MethodName)), (Jvm.Cond.instantiable "java/lang/Throwable" (6 : Nat)), (Jvm.Cond.native ({ cls := "java/lang/Throwable", name := "fillInStackTrace", desc := "(I)Ljava/lang/Throwable;" } : Jvm.MethodName)), (Jvm.Cond.methodLink "java/util/Arrays" (65 : Nat) ({ cls := "java/lang/IllegalArgumentException", name := "<init>", desc := "(Ljava/lang/String;)V" } : Jvm.MethodName)), (Jvm.Cond.instanceMethod ({ cls := "java/lang/IllegalArgumentException", name := "<init>", desc := "(Ljava/lang/String;)V" } : Jvm.MethodName)), (Jvm.Cond.code ({ cls := "java/lang/IllegalArgumentException", name := "<init>", desc := "(Ljava/lang/String;)V" } : Jvm.MethodName) prog_25_method_2_code (2 : Nat) (Option.none : Option Jvm.ClassFile.FieldType)), (Jvm.Cond.methodLink "java/lang/IllegalArgumentException" (7 : Nat) ({ cls := "java/lang/RuntimeException", name := "<init>", desc := "(Ljava/lang/String;)V" } : Jvm.MethodName)), (Jvm.Cond.instanceMethod ({ cls := "java/lang/RuntimeException", name := "<init>", desc := "(Ljava/lang/String;)V" } : Jvm.MethodName)), (Jvm.Cond.code ({ cls := "java/lang/RuntimeException", name := "<init>", desc := "(Ljava/lang/String;)V" } : Jvm.MethodName) prog_33_method_2_code (2 : Nat) (Option.none : Option Jvm.ClassFile.FieldType)), (Jvm.Cond.methodLink "java/lang/RuntimeException" (7 : Nat) ({ cls := "java/lang/Exception", name := "<init>", desc := "(Ljava/lang/String;)V" } : Jvm.MethodName)), (Jvm.Cond.instanceMethod ({ cls := "java/lang/Exception", name := "<init>", desc := "(Ljava/lang/String;)V" } : Jvm.MethodName)), (Jvm.Cond.code ({ cls := "java/lang/Exception", name := "<init>", desc := "(Ljava/lang/String;)V" } : Jvm.MethodName) prog_24_method_2_code (2 : Nat) (Option.none : Option Jvm.ClassFile.FieldType)), (Jvm.Cond.methodLink "java/lang/Exception" (7 : Nat) ({ cls := "java/lang/Throwable", name := "<init>", desc := "(Ljava/lang/String;)V" } : Jvm.MethodName)), (Jvm.Cond.instanceMethod ({ cls := "java/lang/Throwable", name := "<init>", desc := "(Ljava/lang/String;)V" } : Jvm.MethodName)), (Jvm.Cond.code ({ cls := "java/lang/Throwable", name := "<init>", desc := "(Ljava/lang/String;)V" } : Jvm.MethodName) prog_40_method_2_code (2 : Nat) (Option.none : Option Jvm.ClassFile.FieldType)), (Jvm.Cond.fieldLink "java/lang/Throwable" (31 : Nat) "java/lang/Throwable" "detailMessage" "Ljava/lang/String;"), (Jvm.Cond.fieldLink "java/lang/Throwable" (7 : Nat) "java/lang/Throwable" "cause" "Ljava/lang/Throwable;"), (Jvm.Cond.fieldLink "java/lang/Throwable" (17 : Nat) "java/lang/Throwable" "stackTrace" "[Ljava/lang/StackTraceElement;"), (Jvm.Cond.fieldLink "java/lang/Throwable" (24 : Nat) "java/lang/Throwable" "suppressedExceptions" "Ljava/util/List;"), (Jvm.Cond.soleField "java/lang/Throwable" "backtrace"), (Jvm.Cond.soleField "java/lang/Throwable" "detailMessage"), (Jvm.Cond.soleField "java/lang/Throwable" "cause"), (Jvm.Cond.soleField "java/lang/Throwable" "stackTrace"), (Jvm.Cond.lays "java/lang/IllegalArgumentException" "java/lang/Throwable" "depth" "I"), (Jvm.Cond.soleField "java/lang/Throwable" "depth"), (Jvm.Cond.soleField "java/lang/Throwable" "suppressedExceptions"), (Jvm.Cond.superclass "java/lang/IllegalArgumentException" "java/lang/RuntimeException"), (Jvm.Cond.methodLink "java/lang/StringIndexOutOfBoundsException" (7 : Nat) ({ cls := "java/lang/IndexOutOfBoundsException", name := "<init>", desc := "(Ljava/lang/String;)V" } : Jvm.MethodName)), (Jvm.Cond.instanceMethod ({ cls := "java/lang/IndexOutOfBoundsException", name := "<init>", desc := "(Ljava/lang/String;)V" } : Jvm.MethodName)), (Jvm.Cond.code ({ cls := "java/lang/IndexOutOfBoundsException", name := "<init>", desc := "(Ljava/lang/String;)V" } : Jvm.MethodName) prog_27_method_2_code (2 : Nat) (Option.none : Option Jvm.ClassFile.FieldType)), (Jvm.Cond.methodLink "java/lang/IndexOutOfBoundsException" (7 : Nat) ({ cls := "java/lang/RuntimeException", name := "<init>", desc := "(Ljava/lang/String;)V" } : Jvm.MethodName)), (Jvm.Cond.lays "java/lang/StringIndexOutOfBoundsException" "java/lang/Throwable" "backtrace" "Ljava/lang/Object;"), (Jvm.Cond.lays "java/lang/StringIndexOutOfBoundsException" "java/lang/Throwable" "detailMessage" "Ljava/lang/String;"), (Jvm.Cond.lays "java/lang/StringIndexOutOfBoundsException" "java/lang/Throwable" "cause" "Ljava/lang/Throwable;"), (Jvm.Cond.lays "java/lang/StringIndexOutOfBoundsException" "java/lang/Throwable" "stackTrace" "[Ljava/lang/StackTraceElement;"), (Jvm.Cond.lays "java/lang/StringIndexOutOfBoundsException" "java/lang/Throwable" "depth" "I"), (Jvm.Cond.lays "java/lang/StringIndexOutOfBoundsException" "java/lang/Throwable" "suppressedExceptions" "Ljava/util/List;"), (Jvm.Cond.superclass "java/lang/StringIndexOutOfBoundsException" "java/lang/IndexOutOfBoundsException"), (Jvm.Cond.declares ({ cls := "java/lang/IndexOutOfBoundsException", name := "<init>", desc := "()V" } : Jvm.MethodName)), (Jvm.Cond.declares ({ cls := "java/lang/IndexOutOfBoundsException", name := "<init>", desc := "(Ljava/lang/String;)V" } : Jvm.MethodName)), (Jvm.Cond.selects "java/lang/ArrayIndexOutOfBoundsException" ({ cls := "java/lang/Throwable", name := "fillInStackTrace", desc := "(I)Ljava/lang/Throwable;" } : Jvm.MethodName) ({ cls := "java/lang/Throwable", name := "fillInStackTrace", desc := "(I)Ljava/lang/Throwable;" } : Jvm.MethodName)), (Jvm.Cond.lays "java/lang/ArrayIndexOutOfBoundsException" "java/lang/Throwable" "cause" "Ljava/lang/Throwable;"), (Jvm.Cond.lays "java/lang/ArrayIndexOutOfBoundsException" "java/lang/Throwable" "stackTrace" "[Ljava/lang/StackTraceElement;"), (Jvm.Cond.lays "java/lang/ArrayIndexOutOfBoundsException" "java/lang/Throwable" "suppressedExceptions" "Ljava/util/List;"), (Jvm.Cond.lays "java/lang/ArrayIndexOutOfBoundsException" "java/lang/Throwable" "detailMessage" "Ljava/lang/String;"), (Jvm.Cond.lays "java/lang/ArrayIndexOutOfBoundsException" "java/lang/Throwable" "backtrace" "Ljava/lang/Object;"), (Jvm.Cond.methodLink "java/lang/ArrayIndexOutOfBoundsException" (7 : Nat) ({ cls := "java/lang/IndexOutOfBoundsException", name := "<init>", desc := "(Ljava/lang/String;)V" } : Jvm.MethodName)), (Jvm.Cond.lays "java/lang/ArrayIndexOutOfBoundsException" "java/lang/Throwable" "depth" "I"), (Jvm.Cond.superclass "java/lang/ArrayIndexOutOfBoundsException" "java/lang/IndexOutOfBoundsException"), (Jvm.Cond.methodLink "WavesaleLaw$Out" (1 : Nat) ({ cls := "java/lang/Object", name := "<init>", desc := "()V" } : Jvm.MethodName)), (Jvm.Cond.classLink "WavesaleLaw" (19 : Nat) "java/lang/IllegalArgumentException"), (Jvm.Cond.classLink "WavesaleLaw" (21 : Nat) "java/lang/IllegalStateException"), (Jvm.Cond.classLink "Wavesale" (90 : Nat) "java/lang/IllegalArgumentException"), (Jvm.Cond.methodLink "Wavesale" (94 : Nat) ({ cls := "java/lang/IllegalArgumentException", name := "<init>", desc := "(Ljava/lang/String;)V" } : Jvm.MethodName)), (Jvm.Cond.classLink "Wavesale" (72 : Nat) "java/lang/IllegalStateException"), (Jvm.Cond.instantiable "java/lang/IllegalStateException" (6 : Nat)), (Jvm.Cond.castable "java/lang/IllegalStateException" "java/lang/IllegalStateException"), (Jvm.Cond.selects "java/lang/IllegalStateException" ({ cls := "java/lang/Throwable", name := "fillInStackTrace", desc := "(I)Ljava/lang/Throwable;" } : Jvm.MethodName) ({ cls := "java/lang/Throwable", name := "fillInStackTrace", desc := "(I)Ljava/lang/Throwable;" } : Jvm.MethodName)), (Jvm.Cond.lays "java/lang/IllegalStateException" "java/lang/Throwable" "cause" "Ljava/lang/Throwable;"), (Jvm.Cond.lays "java/lang/IllegalStateException" "java/lang/Throwable" "stackTrace" "[Ljava/lang/StackTraceElement;"), (Jvm.Cond.lays "java/lang/IllegalStateException" "java/lang/Throwable" "suppressedExceptions" "Ljava/util/List;"), (Jvm.Cond.lays "java/lang/IllegalStateException" "java/lang/Throwable" "detailMessage" "Ljava/lang/String;"), (Jvm.Cond.lays "java/lang/IllegalStateException" "java/lang/Throwable" "backtrace" "Ljava/lang/Object;"), (Jvm.Cond.methodLink "Wavesale" (76 : Nat) ({ cls := "java/lang/IllegalStateException", name := "<init>", desc := "(Ljava/lang/String;)V" } : Jvm.MethodName)), (Jvm.Cond.instanceMethod ({ cls := "java/lang/IllegalStateException", name := "<init>", desc := "(Ljava/lang/String;)V" } : Jvm.MethodName)), (Jvm.Cond.code ({ cls := "java/lang/IllegalStateException", name := "<init>", desc := "(Ljava/lang/String;)V" } : Jvm.MethodName) prog_26_method_2_code (2 : Nat) (Option.none : Option Jvm.ClassFile.FieldType)), (Jvm.Cond.methodLink "java/lang/IllegalStateException" (7 : Nat) ({ cls := "java/lang/RuntimeException", name := "<init>", desc := "(Ljava/lang/String;)V" } : Jvm.MethodName)), (Jvm.Cond.lays "java/lang/IllegalStateException" "java/lang/Throwable" "depth" "I"), (Jvm.Cond.superclass "java/lang/IllegalStateException" "java/lang/RuntimeException"), (Jvm.Cond.classLink "WavesaleLaw" (27 : Nat) "java/lang/IndexOutOfBoundsException"), (Jvm.Cond.classLink "Wavesale" (268 : Nat) "java/lang/IndexOutOfBoundsException"), (Jvm.Cond.instantiable "java/lang/IndexOutOfBoundsException" (6 : Nat)), (Jvm.Cond.castable "java/lang/IndexOutOfBoundsException" "java/lang/IndexOutOfBoundsException"), (Jvm.Cond.selects "java/lang/IndexOutOfBoundsException" ({ cls := "java/lang/Throwable", name := "fillInStackTrace", desc := "(I)Ljava/lang/Throwable;" } : Jvm.MethodName) ({ cls := "java/lang/Throwable", name := "fillInStackTrace", desc := "(I)Ljava/lang/Throwable;" } : Jvm.MethodName)), (Jvm.Cond.lays "java/lang/IndexOutOfBoundsException" "java/lang/Throwable" "cause" "Ljava/lang/Throwable;"), (Jvm.Cond.lays "java/lang/IndexOutOfBoundsException" "java/lang/Throwable" "stackTrace" "[Ljava/lang/StackTraceElement;"), (Jvm.Cond.lays "java/lang/IndexOutOfBoundsException" "java/lang/Throwable" "suppressedExceptions" "Ljava/util/List;"), (Jvm.Cond.lays "java/lang/IndexOutOfBoundsException" "java/lang/Throwable" "detailMessage" "Ljava/lang/String;"), (Jvm.Cond.lays "java/lang/IndexOutOfBoundsException" "java/lang/Throwable" "backtrace" "Ljava/lang/Object;"), (Jvm.Cond.methodLink "Wavesale" (272 : Nat) ({ cls := "java/lang/IndexOutOfBoundsException", name := "<init>", desc := "(Ljava/lang/String;)V" } : Jvm.MethodName)), (Jvm.Cond.lays "java/lang/IndexOutOfBoundsException" "java/lang/Throwable" "depth" "I"), (Jvm.Cond.superclass "java/lang/IndexOutOfBoundsException" "java/lang/RuntimeException"), (Jvm.Cond.methodLink "WavesaleModel" (1 : Nat) ({ cls := "java/lang/Object", name := "<init>", desc := "()V" } : Jvm.MethodName)), (Jvm.Cond.methodLink "java/util/AbstractCollection" (1 : Nat) ({ cls := "java/lang/Object", name := "<init>", desc := "()V" } : Jvm.MethodName)), (Jvm.Cond.methodLink "WavesaleModel$Region" (1 : Nat) ({ cls := "java/lang/Object", name := "<init>", desc := "()V" } : Jvm.MethodName)), (Jvm.Cond.selects "java/lang/IllegalArgumentException" ({ cls := "java/lang/Object", name := "getClass", desc := "()Ljava/lang/Class;" } : Jvm.MethodName) ({ cls := "java/lang/Object", name := "getClass", desc := "()Ljava/lang/Class;" } : Jvm.MethodName)), (Jvm.Cond.selects "java/lang/IllegalStateException" ({ cls := "java/lang/Object", name := "getClass", desc := "()Ljava/lang/Class;" } : Jvm.MethodName) ({ cls := "java/lang/Object", name := "getClass", desc := "()Ljava/lang/Class;" } : Jvm.MethodName)), (Jvm.Cond.selects "java/lang/IndexOutOfBoundsException" ({ cls := "java/lang/Object", name := "getClass", desc := "()Ljava/lang/Class;" } : Jvm.MethodName) ({ cls := "java/lang/Object", name := "getClass", desc := "()Ljava/lang/Class;" } : Jvm.MethodName)), (Jvm.Cond.methodLink "java/util/ArrayList$Itr" (7 : Nat) ({ cls := "java/lang/Object", name := "<init>", desc := "()V" } : Jvm.MethodName)), (Jvm.Cond.methodLink "WavesaleModel$Bidder" (1 : Nat) ({ cls := "java/lang/Object", name := "<init>", desc := "()V" } : Jvm.MethodName)), (Jvm.Cond.methodLink "WavesaleModel$Clock" (9 : Nat) ({ cls := "java/lang/Object", name := "<init>", desc := "()V" } : Jvm.MethodName)), (Jvm.Cond.methodLink "WavesaleModel$Round" (1 : Nat) ({ cls := "java/lang/Object", name := "<init>", desc := "()V" } : Jvm.MethodName)), (Jvm.Cond.methodLink "java/lang/Number" (1 : Nat) ({ cls := "java/lang/Object", name := "<init>", desc := "()V" } : Jvm.MethodName)), (Jvm.Cond.methodLink "WavesaleModel$Choice" (9 : Nat) ({ cls := "java/lang/Object", name := "<init>", desc := "()V" } : Jvm.MethodName)), (Jvm.Cond.sameMethod "java/lang/Throwable" "java/lang/Throwable" "fillInStackTrace" "(I)Ljava/lang/Throwable;"), (Jvm.Cond.castable "java/lang/ArrayIndexOutOfBoundsException" "java/lang/IndexOutOfBoundsException"), (Jvm.Cond.castable "java/lang/StringIndexOutOfBoundsException" "java/lang/IndexOutOfBoundsException"), (Jvm.Cond.castable "java/lang/IllegalArgumentException" "java/lang/Object"), (Jvm.Cond.castable "java/lang/IllegalStateException" "java/lang/Object"), (Jvm.Cond.castable "java/lang/IndexOutOfBoundsException" "java/lang/Object"), (Jvm.Cond.castable "java/lang/Throwable" "java/lang/Object")]
set_option maxRecDepth 100000 in
theorem gw_EX : ∀ w ∈ gwl_EX.filter goodWord, w ∈ xx_gws := fun w hw => List.mem_filter.mpr ⟨xx_pick_in [102, 0, 0, 0, 0, 4, 23, 0, 0, 5, 70, 57, 50, 11, 16, 218, 203, 23, 0, 0, 0, 0, 0, 0, 0, 0, 0, 0, 0, 0, 0, 0, 0, 0, 0, 0, 0, 0, 0, 0, 0, 0, 0, 0, 1, 1, 0, 0, 0, 0, 0, 0, 0, 0, 0, 0, 0, 0, 6, 0, 0, 0, 0, 0, 0, 0, 0, 0, 0, 0, 1, 0, 0, 0, 0, 0, 0, 0, 0, 0, 0, 0, 24, 0, 0, 0, 0, 0, 0, 0, 0, 0, 0, 15, 0, 0, 0, 0, 0, 0, 0, 9, 0, 0, 80, 10, 0, 7, 1, 4, 0, 0, 0, 0, 0, 0, 0, 0, 1, 0, 0, 0, 0, 0, 9, 8, 0, 0, 0, 0, 0, 0, 0, 0, 1, 0, 0, 430, 11, 100, 54, 0, 0, 44, 47, 46, 94, 65, 27, 354, 2, 0, 11, 0, 1, 9] lw_tbl w (by have h := (List.mem_filter.mp hw).1; rw [show xx_pick [102, 0, 0, 0, 0, 4, 23, 0, 0, 5, 70, 57, 50, 11, 16, 218, 203, 23, 0, 0, 0, 0, 0, 0, 0, 0, 0, 0, 0, 0, 0, 0, 0, 0, 0, 0, 0, 0, 0, 0, 0, 0, 0, 0, 1, 1, 0, 0, 0, 0, 0, 0, 0, 0, 0, 0, 0, 0, 6, 0, 0, 0, 0, 0, 0, 0, 0, 0, 0, 0, 1, 0, 0, 0, 0, 0, 0, 0, 0, 0, 0, 0, 24, 0, 0, 0, 0, 0, 0, 0, 0, 0, 0, 15, 0, 0, 0, 0, 0, 0, 0, 9, 0, 0, 80, 10, 0, 7, 1, 4, 0, 0, 0, 0, 0, 0, 0, 0, 1, 0, 0, 0, 0, 0, 9, 8, 0, 0, 0, 0, 0, 0, 0, 0, 1, 0, 0, 430, 11, 100, 54, 0, 0, 44, 47, 46, 94, 65, 27, 354, 2, 0, 11, 0, 1, 9] lw_tbl = gwl_EX from rfl]; exact h), (List.mem_filter.mp hw).2⟩
theorem xx_exIn {E : String} {names : List String} (h : (xx_atB E names).all (fun w => decide (w = .castable E E) || (gwl_EX.filter goodWord).contains w || xx_dcl.contains w) = true) : ∀ w ∈ xx_atB E names, w = .castable E E ∨ w ∈ xx_gws ∨ w ∈ xx_nws := fun w hw => by
  have h1 := List.all_eq_true.mp h w hw
  simp only [Bool.or_eq_true, decide_eq_true_eq, List.contains_iff_mem] at h1
  rcases h1 with (h1 | h1) | h1
  · exact .inl h1
  · exact .inr (.inl (gw_EX w h1))
  · exact .inr (.inr (xx_dcl_ok w h1))
theorem ex_IAE : xx_ex "java/lang/IllegalArgumentException" := ⟨⟨by decide, by decide⟩, gw_EX _ (by decide +kernel), gw_EX _ (by decide +kernel), xx_exIn (by decide +kernel), List.all_eq_true.mp (by decide +kernel)⟩
theorem ex_ISE : xx_ex "java/lang/IllegalStateException" := ⟨⟨by decide, by decide⟩, gw_EX _ (by decide +kernel), gw_EX _ (by decide +kernel), xx_exIn (by decide +kernel), List.all_eq_true.mp (by decide +kernel)⟩
theorem ex_IOB : xx_ex "java/lang/IndexOutOfBoundsException" := ⟨⟨by decide, by decide⟩, gw_EX _ (by decide +kernel), gw_EX _ (by decide +kernel), xx_exIn (by decide +kernel), List.all_eq_true.mp (by decide +kernel)⟩
theorem th_X7_region_37 : Cond.classLink RX7 72 "java/lang/IllegalStateException" ∈ xx_gws ∧ Cond.methodLink RX7 76 (Bundle.initS "java/lang/IllegalStateException") ∈ xx_gws ∧ (RX7, 74, "there is no room for another region") ∈ xx_strs := ⟨(gw_WX7 _ (List.mem_of_getElem? (i := 155) rfl)), (gw_WX7 _ (List.mem_of_getElem? (i := 156) rfl)), xx_sl_ok _ (List.mem_of_getElem? (i := 0) rfl)⟩
theorem th_X7_border_15 : Cond.classLink RX7 90 "java/lang/IllegalArgumentException" ∈ xx_gws ∧ Cond.methodLink RX7 94 (Bundle.initS "java/lang/IllegalArgumentException") ∈ xx_gws ∧ (RX7, 92, "a region is no neighbour of itself") ∈ xx_strs := ⟨(gw_WX7 _ (List.mem_of_getElem? (i := 150) rfl)), (gw_WX7 _ (List.mem_of_getElem? (i := 151) rfl)), xx_sl_ok _ (List.mem_of_getElem? (i := 1) rfl)⟩
theorem th_X7_bidder_46 : Cond.classLink RX7 72 "java/lang/IllegalStateException" ∈ xx_gws ∧ Cond.methodLink RX7 76 (Bundle.initS "java/lang/IllegalStateException") ∈ xx_gws ∧ (RX7, 103, "there is no room for another bidder") ∈ xx_strs := ⟨(gw_WX7 _ (List.mem_of_getElem? (i := 155) rfl)), (gw_WX7 _ (List.mem_of_getElem? (i := 156) rfl)), xx_sl_ok _ (List.mem_of_getElem? (i := 2) rfl)⟩
theorem th_X7_step_22 : Cond.classLink RX7 72 "java/lang/IllegalStateException" ∈ xx_gws ∧ Cond.methodLink RX7 76 (Bundle.initS "java/lang/IllegalStateException") ∈ xx_gws ∧ (RX7, 116, "the clock is over") ∈ xx_strs := ⟨(gw_WX7 _ (List.mem_of_getElem? (i := 155) rfl)), (gw_WX7 _ (List.mem_of_getElem? (i := 156) rfl)), xx_sl_ok _ (List.mem_of_getElem? (i := 3) rfl)⟩
theorem th_X7_open_25 : Cond.classLink RX7 72 "java/lang/IllegalStateException" ∈ xx_gws ∧ Cond.methodLink RX7 76 (Bundle.initS "java/lang/IllegalStateException") ∈ xx_gws ∧ (RX7, 118, "a clock needs a region and a bidder") ∈ xx_strs := ⟨(gw_WX7 _ (List.mem_of_getElem? (i := 155) rfl)), (gw_WX7 _ (List.mem_of_getElem? (i := 156) rfl)), xx_sl_ok _ (List.mem_of_getElem? (i := 4) rfl)⟩
theorem th_X7_wish_38 : Cond.classLink RX7 72 "java/lang/IllegalStateException" ∈ xx_gws ∧ Cond.methodLink RX7 76 (Bundle.initS "java/lang/IllegalStateException") ∈ xx_gws ∧ (RX7, 131, "more than the bidder may wish") ∈ xx_strs := ⟨(gw_WX7 _ (List.mem_of_getElem? (i := 155) rfl)), (gw_WX7 _ (List.mem_of_getElem? (i := 156) rfl)), xx_sl_ok _ (List.mem_of_getElem? (i := 5) rfl)⟩
theorem th_X7_waive_33 : Cond.classLink RX7 72 "java/lang/IllegalStateException" ∈ xx_gws ∧ Cond.methodLink RX7 76 (Bundle.initS "java/lang/IllegalStateException") ∈ xx_gws ∧ (RX7, 156, "the bidder has no waiver for this round") ∈ xx_strs := ⟨(gw_WX7 _ (List.mem_of_getElem? (i := 155) rfl)), (gw_WX7 _ (List.mem_of_getElem? (i := 156) rfl)), xx_sl_ok _ (List.mem_of_getElem? (i := 6) rfl)⟩
theorem th_X7_offer_20 : Cond.classLink RX7 90 "java/lang/IllegalArgumentException" ∈ xx_gws ∧ Cond.methodLink RX7 94 (Bundle.initS "java/lang/IllegalArgumentException") ∈ xx_gws ∧ (RX7, 171, "no such bundle, or an amount below 0") ∈ xx_strs := ⟨(gw_WX7 _ (List.mem_of_getElem? (i := 150) rfl)), (gw_WX7 _ (List.mem_of_getElem? (i := 151) rfl)), xx_sl_ok _ (List.mem_of_getElem? (i := 7) rfl)⟩
theorem th_X7_offer_62 : Cond.classLink RX7 72 "java/lang/IllegalStateException" ∈ xx_gws ∧ Cond.methodLink RX7 76 (Bundle.initS "java/lang/IllegalStateException") ∈ xx_gws ∧ (RX7, 180, "the bidder may not tell this package") ∈ xx_strs := ⟨(gw_WX7 _ (List.mem_of_getElem? (i := 155) rfl)), (gw_WX7 _ (List.mem_of_getElem? (i := 156) rfl)), xx_sl_ok _ (List.mem_of_getElem? (i := 8) rfl)⟩
theorem th_X7_fail_23 : Cond.classLink RX7 72 "java/lang/IllegalStateException" ∈ xx_gws ∧ Cond.methodLink RX7 76 (Bundle.initS "java/lang/IllegalStateException") ∈ xx_gws ∧ (RX7, 203, "the bidder is no winner") ∈ xx_strs := ⟨(gw_WX7 _ (List.mem_of_getElem? (i := 155) rfl)), (gw_WX7 _ (List.mem_of_getElem? (i := 156) rfl)), xx_sl_ok _ (List.mem_of_getElem? (i := 9) rfl)⟩
theorem th_X7_station_25 : Cond.classLink RX7 72 "java/lang/IllegalStateException" ∈ xx_gws ∧ Cond.methodLink RX7 76 (Bundle.initS "java/lang/IllegalStateException") ∈ xx_gws ∧ (RX7, 218, "there is no room for another station") ∈ xx_strs := ⟨(gw_WX7 _ (List.mem_of_getElem? (i := 155) rfl)), (gw_WX7 _ (List.mem_of_getElem? (i := 156) rfl)), xx_sl_ok _ (List.mem_of_getElem? (i := 10) rfl)⟩
theorem th_X7_ofPackage_22 : Cond.classLink RX7 268 "java/lang/IndexOutOfBoundsException" ∈ xx_gws ∧ Cond.methodLink RX7 272 (Bundle.initS "java/lang/IndexOutOfBoundsException") ∈ xx_gws ∧ (RX7, 270, "there is no such package") ∈ xx_strs := ⟨(gw_WX7 _ (List.mem_of_getElem? (i := 165) rfl)), (gw_WX7 _ (List.mem_of_getElem? (i := 166) rfl)), xx_sl_ok _ (List.mem_of_getElem? (i := 11) rfl)⟩
theorem th_X7_holder_22 : Cond.classLink RX7 268 "java/lang/IndexOutOfBoundsException" ∈ xx_gws ∧ Cond.methodLink RX7 272 (Bundle.initS "java/lang/IndexOutOfBoundsException") ∈ xx_gws ∧ (RX7, 288, "there is no such block") ∈ xx_strs := ⟨(gw_WX7 _ (List.mem_of_getElem? (i := 165) rfl)), (gw_WX7 _ (List.mem_of_getElem? (i := 166) rfl)), xx_sl_ok _ (List.mem_of_getElem? (i := 12) rfl)⟩
theorem th_X7_needBetween_10 : Cond.classLink RX7 90 "java/lang/IllegalArgumentException" ∈ xx_gws ∧ Cond.methodLink RX7 94 (Bundle.initS "java/lang/IllegalArgumentException") ∈ xx_gws ∧ (RX7, 367, "a number is outside of its bounds") ∈ xx_strs := ⟨(gw_WX7 _ (List.mem_of_getElem? (i := 150) rfl)), (gw_WX7 _ (List.mem_of_getElem? (i := 151) rfl)), xx_sl_ok _ (List.mem_of_getElem? (i := 13) rfl)⟩
theorem th_X7_needSet_11 : Cond.classLink RX7 90 "java/lang/IllegalArgumentException" ∈ xx_gws ∧ Cond.methodLink RX7 94 (Bundle.initS "java/lang/IllegalArgumentException") ∈ xx_gws ∧ (RX7, 369, "the set has one that is not there") ∈ xx_strs := ⟨(gw_WX7 _ (List.mem_of_getElem? (i := 150) rfl)), (gw_WX7 _ (List.mem_of_getElem? (i := 151) rfl)), xx_sl_ok _ (List.mem_of_getElem? (i := 14) rfl)⟩
theorem th_X7_needStage_8 : Cond.classLink RX7 72 "java/lang/IllegalStateException" ∈ xx_gws ∧ Cond.methodLink RX7 76 (Bundle.initS "java/lang/IllegalStateException") ∈ xx_gws ∧ (RX7, 371, "this belongs to another stage") ∈ xx_strs := ⟨(gw_WX7 _ (List.mem_of_getElem? (i := 155) rfl)), (gw_WX7 _ (List.mem_of_getElem? (i := 156) rfl)), xx_sl_ok _ (List.mem_of_getElem? (i := 15) rfl)⟩
theorem th_X7_needRegion_15 : Cond.classLink RX7 268 "java/lang/IndexOutOfBoundsException" ∈ xx_gws ∧ Cond.methodLink RX7 272 (Bundle.initS "java/lang/IndexOutOfBoundsException") ∈ xx_gws ∧ (RX7, 373, "there is no such region") ∈ xx_strs := ⟨(gw_WX7 _ (List.mem_of_getElem? (i := 165) rfl)), (gw_WX7 _ (List.mem_of_getElem? (i := 166) rfl)), xx_sl_ok _ (List.mem_of_getElem? (i := 16) rfl)⟩
theorem th_X7_needBidder_15 : Cond.classLink RX7 268 "java/lang/IndexOutOfBoundsException" ∈ xx_gws ∧ Cond.methodLink RX7 272 (Bundle.initS "java/lang/IndexOutOfBoundsException") ∈ xx_gws ∧ (RX7, 375, "there is no such bidder") ∈ xx_strs := ⟨(gw_WX7 _ (List.mem_of_getElem? (i := 165) rfl)), (gw_WX7 _ (List.mem_of_getElem? (i := 166) rfl)), xx_sl_ok _ (List.mem_of_getElem? (i := 17) rfl)⟩
theorem th_X7_needStation_15 : Cond.classLink RX7 268 "java/lang/IndexOutOfBoundsException" ∈ xx_gws ∧ Cond.methodLink RX7 272 (Bundle.initS "java/lang/IndexOutOfBoundsException") ∈ xx_gws ∧ (RX7, 377, "there is no such station") ∈ xx_strs := ⟨(gw_WX7 _ (List.mem_of_getElem? (i := 165) rfl)), (gw_WX7 _ (List.mem_of_getElem? (i := 166) rfl)), xx_sl_ok _ (List.mem_of_getElem? (i := 18) rfl)⟩
theorem th_X7_needRound_16 : Cond.classLink RX7 268 "java/lang/IndexOutOfBoundsException" ∈ xx_gws ∧ Cond.methodLink RX7 272 (Bundle.initS "java/lang/IndexOutOfBoundsException") ∈ xx_gws ∧ (RX7, 382, "the log has no such round") ∈ xx_strs := ⟨(gw_WX7 _ (List.mem_of_getElem? (i := 165) rfl)), (gw_WX7 _ (List.mem_of_getElem? (i := 166) rfl)), xx_sl_ok _ (List.mem_of_getElem? (i := 19) rfl)⟩
end
section
/-! ===== decode facts by one walk along the bytes ===== -/
theorem dw_bindE {α β : Type} (r : Decoder α) (f : α → Decoder β) (B : ByteArray) (p : Nat) : Reader.runAt (r >>= f) B p = (Reader.runAt r B p >>= fun q => Reader.runAt (f q.1) B q.2) := by
  first | rfl | simp only [Reader.runAt, ReaderT.run_bind, StateT.run_bind]
theorem dw_u1E (C : ByteArray) (p : Nat) : Reader.runAt (Reader.u1 : Decoder Nat) C p = if h : p < C.size then .ok ((C[p]'h).toNat, p + 1) else .error (.truncated p) := by
  have e : Reader.runAt (Reader.u1 : Decoder Nat) C p = Reader.runAt (if h : p < C.size then (do set (p + 1); pure (C[p]'h).toNat : Decoder Nat) else throw (HasTruncated.truncated p)) C p := rfl
  rw [e]
  by_cases h : p < C.size
  · rw [dif_pos h, dif_pos h]; rfl
  · rw [dif_neg h, dif_neg h]; rfl
/-- the byte at p is x -/
def dw_B (A : ByteArray) (p x : Nat) : Prop := ∃ h : p < A.size, (A[p]'h).toNat = x
theorem dw_u1B {A : ByteArray} {p x : Nat} (h : dw_B A p x) : Reader.runAt (Reader.u1 : Decoder Nat) A p = .ok (x, p + 1) := by
  obtain ⟨h1, h2⟩ := h
  rw [dw_u1E, dif_pos h1, h2]
theorem dw_s1B {A : ByteArray} {p x : Nat} (h : dw_B A p x) : Reader.runAt (Reader.s1 : Decoder Int) A p = .ok (Reader.signed 8 x, p + 1) := by
  have e : (Reader.s1 : Decoder Int) = (Reader.u1 >>= fun a => pure (Reader.signed 8 a)) := rfl
  rw [e, dw_bindE, dw_u1B h]
  rfl
theorem dw_u2B {A : ByteArray} {p x y : Nat} (h : dw_B A p x) (h2 : dw_B A (p + 1) y) : Reader.runAt (Reader.u2 : Decoder Nat) A p = .ok (x * 256 + y, p + 1 + 1) := by
  have e : (Reader.u2 : Decoder Nat) = (Reader.u1 >>= fun hi => Reader.u1 >>= fun lo => pure (hi * 256 + lo)) := rfl
  have e2 : Reader.runAt (Reader.u1 >>= fun lo => (pure (x * 256 + lo) : Decoder Nat)) A (p + 1) = .ok (x * 256 + y, p + 1 + 1) := by
    rw [dw_bindE, dw_u1B h2]
    rfl
  rw [e, dw_bindE, dw_u1B h]
  exact e2
theorem dw_s2B {A : ByteArray} {p x y : Nat} (h : dw_B A p x) (h2 : dw_B A (p + 1) y) : Reader.runAt (Reader.s2 : Decoder Int) A p = .ok (Reader.signed 16 (x * 256 + y), p + 1 + 1) := by
  have e : (Reader.s2 : Decoder Int) = (Reader.u2 >>= fun a => pure (Reader.signed 16 a)) := rfl
  rw [e, dw_bindE, dw_u2B h h2]
  rfl
/-- the small decoder: from an opcode and the two bytes behind it -/
def dw_F (o x y : Nat) : Option (Instr × Nat) := (cond (Nat.ble o 89) (cond (Nat.ble o 30) (cond (Nat.ble o 16) (cond (Nat.ble o 6) (cond (Nat.ble o 3) (cond (Nat.ble o 2) (cond (Nat.beq o 2) (some (.iconst (-1), 1)) none) (cond (Nat.beq o 3) (some (.iconst 0, 1)) none)) (cond (Nat.ble o 4) (cond (Nat.beq o 4) (some (.iconst 1, 1)) none) (cond (Nat.ble o 5) (cond (Nat.beq o 5) (some (.iconst 2, 1)) none) (cond (Nat.beq o 6) (some (.iconst 3, 1)) none)))) (cond (Nat.ble o 8) (cond (Nat.ble o 7) (cond (Nat.beq o 7) (some (.iconst 4, 1)) none) (cond (Nat.beq o 8) (some (.iconst 5, 1)) none)) (cond (Nat.ble o 9) (cond (Nat.beq o 9) (some (.lconst 0, 1)) none) (cond (Nat.ble o 10) (cond (Nat.beq o 10) (some (.lconst 1, 1)) none) (cond (Nat.beq o 16) (some (.bipush (Reader.signed 8 x), 2)) none))))) (cond (Nat.ble o 22) (cond (Nat.ble o 18) (cond (Nat.ble o 17) (cond (Nat.beq o 17) (some (.sipush (Reader.signed 16 (x * 256 + y)), 3)) none) (cond (Nat.beq o 18) (some (.ldc x, 2)) none)) (cond (Nat.ble o 19) (cond (Nat.beq o 19) (some (.ldc_w (x * 256 + y), 3)) none) (cond (Nat.ble o 21) (cond (Nat.beq o 21) (some (.iload x, 2)) none) (cond (Nat.beq o 22) (some (.lload x, 2)) none)))) (cond (Nat.ble o 27) (cond (Nat.ble o 25) (cond (Nat.beq o 25) (some (.aload x, 2)) none) (cond (Nat.ble o 26) (cond (Nat.beq o 26) (some (.iload_n 0, 1)) none) (cond (Nat.beq o 27) (some (.iload_n 1, 1)) none))) (cond (Nat.ble o 28) (cond (Nat.beq o 28) (some (.iload_n 2, 1)) none) (cond (Nat.ble o 29) (cond (Nat.beq o 29) (some (.iload_n 3, 1)) none) (cond (Nat.beq o 30) (some (.lload_n 0, 1)) none)))))) (cond (Nat.ble o 59) (cond (Nat.ble o 45) (cond (Nat.ble o 42) (cond (Nat.ble o 31) (cond (Nat.beq o 31) (some (.lload_n 1, 1)) none) (cond (Nat.beq o 42) (some (.aload_n 0, 1)) none)) (cond (Nat.ble o 43) (cond (Nat.beq o 43) (some (.aload_n 1, 1)) none) (cond (Nat.ble o 44) (cond (Nat.beq o 44) (some (.aload_n 2, 1)) none) (cond (Nat.beq o 45) (some (.aload_n 3, 1)) none)))) (cond (Nat.ble o 54) (cond (Nat.ble o 46) (cond (Nat.beq o 46) (some (.iaload, 1)) none) (cond (Nat.ble o 50) (cond (Nat.beq o 50) (some (.aaload, 1)) none) (cond (Nat.beq o 54) (some (.istore x, 2)) none))) (cond (Nat.ble o 55) (cond (Nat.beq o 55) (some (.lstore x, 2)) none) (cond (Nat.ble o 58) (cond (Nat.beq o 58) (some (.astore x, 2)) none) (cond (Nat.beq o 59) (some (.istore_n 0, 1)) none))))) (cond (Nat.ble o 76) (cond (Nat.ble o 61) (cond (Nat.ble o 60) (cond (Nat.beq o 60) (some (.istore_n 1, 1)) none) (cond (Nat.beq o 61) (some (.istore_n 2, 1)) none)) (cond (Nat.ble o 62) (cond (Nat.beq o 62) (some (.istore_n 3, 1)) none) (cond (Nat.ble o 75) (cond (Nat.beq o 75) (some (.astore_n 0, 1)) none) (cond (Nat.beq o 76) (some (.astore_n 1, 1)) none)))) (cond (Nat.ble o 79) (cond (Nat.ble o 77) (cond (Nat.beq o 77) (some (.astore_n 2, 1)) none) (cond (Nat.ble o 78) (cond (Nat.beq o 78) (some (.astore_n 3, 1)) none) (cond (Nat.beq o 79) (some (.iastore, 1)) none))) (cond (Nat.ble o 83) (cond (Nat.beq o 83) (some (.aastore, 1)) none) (cond (Nat.ble o 87) (cond (Nat.beq o 87) (some (.pop, 1)) none) (cond (Nat.beq o 89) (some (.dup, 1)) none))))))) (cond (Nat.ble o 159) (cond (Nat.ble o 126) (cond (Nat.ble o 108) (cond (Nat.ble o 96) (cond (Nat.ble o 92) (cond (Nat.beq o 92) (some (.dup2, 1)) none) (cond (Nat.beq o 96) (some (.iadd, 1)) none)) (cond (Nat.ble o 100) (cond (Nat.beq o 100) (some (.isub, 1)) none) (cond (Nat.ble o 104) (cond (Nat.beq o 104) (some (.imul, 1)) none) (cond (Nat.beq o 108) (some (.idiv, 1)) none)))) (cond (Nat.ble o 120) (cond (Nat.ble o 112) (cond (Nat.beq o 112) (some (.irem, 1)) none) (cond (Nat.beq o 120) (some (.ishl, 1)) none)) (cond (Nat.ble o 122) (cond (Nat.beq o 122) (some (.ishr, 1)) none) (cond (Nat.ble o 124) (cond (Nat.beq o 124) (some (.iushr, 1)) none) (cond (Nat.beq o 126) (some (.iand, 1)) none))))) (cond (Nat.ble o 153) (cond (Nat.ble o 130) (cond (Nat.ble o 128) (cond (Nat.beq o 128) (some (.ior, 1)) none) (cond (Nat.beq o 130) (some (.ixor, 1)) none)) (cond (Nat.ble o 132) (cond (Nat.beq o 132) (some (.iinc x (Reader.signed 8 y), 3)) none) (cond (Nat.ble o 133) (cond (Nat.beq o 133) (some (.i2l, 1)) none) (cond (Nat.beq o 153) (some (.ifCond .eq (Reader.signed 16 (x * 256 + y)), 3)) none)))) (cond (Nat.ble o 156) (cond (Nat.ble o 154) (cond (Nat.beq o 154) (some (.ifCond .ne (Reader.signed 16 (x * 256 + y)), 3)) none) (cond (Nat.ble o 155) (cond (Nat.beq o 155) (some (.ifCond .lt (Reader.signed 16 (x * 256 + y)), 3)) none) (cond (Nat.beq o 156) (some (.ifCond .ge (Reader.signed 16 (x * 256 + y)), 3)) none))) (cond (Nat.ble o 157) (cond (Nat.beq o 157) (some (.ifCond .gt (Reader.signed 16 (x * 256 + y)), 3)) none) (cond (Nat.ble o 158) (cond (Nat.beq o 158) (some (.ifCond .le (Reader.signed 16 (x * 256 + y)), 3)) none) (cond (Nat.beq o 159) (some (.if_icmp .eq (Reader.signed 16 (x * 256 + y)), 3)) none)))))) (cond (Nat.ble o 178) (cond (Nat.ble o 164) (cond (Nat.ble o 161) (cond (Nat.ble o 160) (cond (Nat.beq o 160) (some (.if_icmp .ne (Reader.signed 16 (x * 256 + y)), 3)) none) (cond (Nat.beq o 161) (some (.if_icmp .lt (Reader.signed 16 (x * 256 + y)), 3)) none)) (cond (Nat.ble o 162) (cond (Nat.beq o 162) (some (.if_icmp .ge (Reader.signed 16 (x * 256 + y)), 3)) none) (cond (Nat.ble o 163) (cond (Nat.beq o 163) (some (.if_icmp .gt (Reader.signed 16 (x * 256 + y)), 3)) none) (cond (Nat.beq o 164) (some (.if_icmp .le (Reader.signed 16 (x * 256 + y)), 3)) none)))) (cond (Nat.ble o 173) (cond (Nat.ble o 167) (cond (Nat.beq o 167) (some (.goto (Reader.signed 16 (x * 256 + y)), 3)) none) (cond (Nat.ble o 172) (cond (Nat.beq o 172) (some (.ireturn, 1)) none) (cond (Nat.beq o 173) (some (.lreturn, 1)) none))) (cond (Nat.ble o 176) (cond (Nat.beq o 176) (some (.areturn, 1)) none) (cond (Nat.ble o 177) (cond (Nat.beq o 177) (some (.return_, 1)) none) (cond (Nat.beq o 178) (some (.getstatic (x * 256 + y), 3)) none))))) (cond (Nat.ble o 184) (cond (Nat.ble o 181) (cond (Nat.ble o 180) (cond (Nat.beq o 180) (some (.getfield (x * 256 + y), 3)) none) (cond (Nat.beq o 181) (some (.putfield (x * 256 + y), 3)) none)) (cond (Nat.ble o 182) (cond (Nat.beq o 182) (some (.invokevirtual (x * 256 + y), 3)) none) (cond (Nat.ble o 183) (cond (Nat.beq o 183) (some (.invokespecial (x * 256 + y), 3)) none) (cond (Nat.beq o 184) (some (.invokestatic (x * 256 + y), 3)) none)))) (cond (Nat.ble o 191) (cond (Nat.ble o 187) (cond (Nat.beq o 187) (some (.new (x * 256 + y), 3)) none) (cond (Nat.ble o 190) (cond (Nat.beq o 190) (some (.arraylength, 1)) none) (cond (Nat.beq o 191) (some (.athrow, 1)) none))) (cond (Nat.ble o 192) (cond (Nat.beq o 192) (some (.checkcast (x * 256 + y), 3)) none) (cond (Nat.ble o 198) (cond (Nat.beq o 198) (some (.ifnull (Reader.signed 16 (x * 256 + y)), 3)) none) (cond (Nat.beq o 199) (some (.ifnonnull (Reader.signed 16 (x * 256 + y)), 3)) none))))))))
def dw_R (g : Decoder Instr) (b : Nat) : Prop := ∀ x y v n, dw_F b x y = some (v, n) → 1 ≤ n ∧ ∀ (A : ByteArray) (p : Nat), (2 ≤ n → dw_B A p x) → (3 ≤ n → dw_B A (p + 1) y) → Reader.runAt g A p = .ok (v, p + (n - 1))
theorem dw_R0 {b : Nat} {I : Instr} {g : Decoder Instr} (e : g = (Pure.pure I : Decoder Instr)) (hF : ∀ x y, dw_F b x y = some (I, 1)) : dw_R g b := fun x y v n h => by
  rw [hF] at h
  injection h with h
  injection h with h1 h2
  subst h1
  subst h2
  refine ⟨Nat.le_refl 1, fun A p _ _ => ?_⟩
  rw [e]
  rfl
theorem dw_R1 {b : Nat} {c : Nat → Instr} {g : Decoder Instr} (e : g = (Reader.u1 >>= fun a => pure (c a))) (hF : ∀ x y, dw_F b x y = some (c x, 2)) : dw_R g b := fun x y v n h => by
  rw [hF] at h
  injection h with h
  injection h with h1 h2
  subst h1
  subst h2
  refine ⟨by decide, fun A p k1 _ => ?_⟩
  rw [e, dw_bindE, dw_u1B (k1 (Nat.le_refl 2))]
  rfl
theorem dw_R2 {b : Nat} {c : Int → Instr} {g : Decoder Instr} (e : g = (Reader.s1 >>= fun a => pure (c a))) (hF : ∀ x y, dw_F b x y = some (c (Reader.signed 8 x), 2)) : dw_R g b := fun x y v n h => by
  rw [hF] at h
  injection h with h
  injection h with h1 h2
  subst h1
  subst h2
  refine ⟨by decide, fun A p k1 _ => ?_⟩
  rw [e, dw_bindE, dw_s1B (k1 (Nat.le_refl 2))]
  rfl
theorem dw_R3 {b : Nat} {c : Nat → Instr} {g : Decoder Instr} (e : g = (Reader.u2 >>= fun a => pure (c a))) (hF : ∀ x y, dw_F b x y = some (c (x * 256 + y), 3)) : dw_R g b := fun x y v n h => by
  rw [hF] at h
  injection h with h
  injection h with h1 h2
  subst h1
  subst h2
  refine ⟨by decide, fun A p k1 k2 => ?_⟩
  rw [e, dw_bindE, dw_u2B (k1 (by decide)) (k2 (Nat.le_refl 3))]
  rfl
theorem dw_R4 {b : Nat} {c : Int → Instr} {g : Decoder Instr} (e : g = (Reader.s2 >>= fun a => pure (c a))) (hF : ∀ x y, dw_F b x y = some (c (Reader.signed 16 (x * 256 + y)), 3)) : dw_R g b := fun x y v n h => by
  rw [hF] at h
  injection h with h
  injection h with h1 h2
  subst h1
  subst h2
  refine ⟨by decide, fun A p k1 k2 => ?_⟩
  rw [e, dw_bindE, dw_s2B (k1 (by decide)) (k2 (Nat.le_refl 3))]
  rfl
theorem dw_R5 {b : Nat} {g : Decoder Instr} (e : g = (Reader.u1 >>= fun a => Reader.s1 >>= fun c => pure (.iinc a c))) (hF : ∀ x y, dw_F b x y = some (.iinc x (Reader.signed 8 y), 3)) : dw_R g b := fun x y v n h => by
  rw [hF] at h
  injection h with h
  injection h with h1 h2
  subst h1
  subst h2
  refine ⟨by decide, fun A p k1 k2 => ?_⟩
  have e2 : Reader.runAt (Reader.s1 >>= fun c => (pure (.iinc x c) : Decoder Instr)) A (p + 1) = .ok (.iinc x (Reader.signed 8 y), p + 1 + 1) := by
    rw [dw_bindE, dw_s1B (k2 (Nat.le_refl 3))]
    rfl
  rw [e, dw_bindE, dw_u1B (k1 (by decide))]
  exact e2
/-- what the byte that was read leads to -/
abbrev dw_A (f : Nat → Decoder Instr) : Prop := f 2 = (pure (.iconst (-1)) : Decoder Instr) ∧ f 3 = (pure (.iconst 0) : Decoder Instr) ∧ f 4 = (pure (.iconst 1) : Decoder Instr) ∧ f 5 = (pure (.iconst 2) : Decoder Instr) ∧ f 6 = (pure (.iconst 3) : Decoder Instr) ∧ f 7 = (pure (.iconst 4) : Decoder Instr) ∧ f 8 = (pure (.iconst 5) : Decoder Instr) ∧ f 9 = (pure (.lconst 0) : Decoder Instr) ∧ f 10 = (pure (.lconst 1) : Decoder Instr) ∧ f 16 = (do let a ← Reader.s1; pure (.bipush a) : Decoder Instr) ∧ f 17 = (do let a ← Reader.s2; pure (.sipush a) : Decoder Instr) ∧ f 18 = (do let a ← Reader.u1; pure (.ldc a) : Decoder Instr) ∧ f 19 = (do let a ← Reader.u2; pure (.ldc_w a) : Decoder Instr) ∧ f 21 = (do let a ← Reader.u1; pure (.iload a) : Decoder Instr) ∧ f 22 = (do let a ← Reader.u1; pure (.lload a) : Decoder Instr) ∧ f 25 = (do let a ← Reader.u1; pure (.aload a) : Decoder Instr) ∧ f 26 = (pure (.iload_n 0) : Decoder Instr) ∧ f 27 = (pure (.iload_n 1) : Decoder Instr) ∧ f 28 = (pure (.iload_n 2) : Decoder Instr) ∧ f 29 = (pure (.iload_n 3) : Decoder Instr) ∧ f 30 = (pure (.lload_n 0) : Decoder Instr) ∧ f 31 = (pure (.lload_n 1) : Decoder Instr) ∧ f 42 = (pure (.aload_n 0) : Decoder Instr) ∧ f 43 = (pure (.aload_n 1) : Decoder Instr) ∧ f 44 = (pure (.aload_n 2) : Decoder Instr) ∧ f 45 = (pure (.aload_n 3) : Decoder Instr) ∧ f 46 = (pure (.iaload) : Decoder Instr) ∧ f 50 = (pure (.aaload) : Decoder Instr) ∧ f 54 = (do let a ← Reader.u1; pure (.istore a) : Decoder Instr) ∧ f 55 = (do let a ← Reader.u1; pure (.lstore a) : Decoder Instr) ∧ f 58 = (do let a ← Reader.u1; pure (.astore a) : Decoder Instr) ∧ f 59 = (pure (.istore_n 0) : Decoder Instr) ∧ f 60 = (pure (.istore_n 1) : Decoder Instr) ∧ f 61 = (pure (.istore_n 2) : Decoder Instr) ∧ f 62 = (pure (.istore_n 3) : Decoder Instr) ∧ f 75 = (pure (.astore_n 0) : Decoder Instr) ∧ f 76 = (pure (.astore_n 1) : Decoder Instr) ∧ f 77 = (pure (.astore_n 2) : Decoder Instr) ∧ f 78 = (pure (.astore_n 3) : Decoder Instr) ∧ f 79 = (pure (.iastore) : Decoder Instr) ∧ f 83 = (pure (.aastore) : Decoder Instr) ∧ f 87 = (pure (.pop) : Decoder Instr) ∧ f 89 = (pure (.dup) : Decoder Instr) ∧ f 92 = (pure (.dup2) : Decoder Instr) ∧ f 96 = (pure (.iadd) : Decoder Instr) ∧ f 100 = (pure (.isub) : Decoder Instr) ∧ f 104 = (pure (.imul) : Decoder Instr) ∧ f 108 = (pure (.idiv) : Decoder Instr) ∧ f 112 = (pure (.irem) : Decoder Instr) ∧ f 120 = (pure (.ishl) : Decoder Instr) ∧ f 122 = (pure (.ishr) : Decoder Instr) ∧ f 124 = (pure (.iushr) : Decoder Instr) ∧ f 126 = (pure (.iand) : Decoder Instr) ∧ f 128 = (pure (.ior) : Decoder Instr) ∧ f 130 = (pure (.ixor) : Decoder Instr) ∧ f 132 = (do let a ← Reader.u1; let c ← Reader.s1; pure (.iinc a c) : Decoder Instr) ∧ f 133 = (pure (.i2l) : Decoder Instr) ∧ f 153 = (do let a ← Reader.s2; pure (.ifCond .eq a) : Decoder Instr) ∧ f 154 = (do let a ← Reader.s2; pure (.ifCond .ne a) : Decoder Instr) ∧ f 155 = (do let a ← Reader.s2; pure (.ifCond .lt a) : Decoder Instr) ∧ f 156 = (do let a ← Reader.s2; pure (.ifCond .ge a) : Decoder Instr) ∧ f 157 = (do let a ← Reader.s2; pure (.ifCond .gt a) : Decoder Instr) ∧ f 158 = (do let a ← Reader.s2; pure (.ifCond .le a) : Decoder Instr) ∧ f 159 = (do let a ← Reader.s2; pure (.if_icmp .eq a) : Decoder Instr) ∧ f 160 = (do let a ← Reader.s2; pure (.if_icmp .ne a) : Decoder Instr) ∧ f 161 = (do let a ← Reader.s2; pure (.if_icmp .lt a) : Decoder Instr) ∧ f 162 = (do let a ← Reader.s2; pure (.if_icmp .ge a) : Decoder Instr) ∧ f 163 = (do let a ← Reader.s2; pure (.if_icmp .gt a) : Decoder Instr) ∧ f 164 = (do let a ← Reader.s2; pure (.if_icmp .le a) : Decoder Instr) ∧ f 167 = (do let a ← Reader.s2; pure (.goto a) : Decoder Instr) ∧ f 172 = (pure (.ireturn) : Decoder Instr) ∧ f 173 = (pure (.lreturn) : Decoder Instr) ∧ f 176 = (pure (.areturn) : Decoder Instr) ∧ f 177 = (pure (.return_) : Decoder Instr) ∧ f 178 = (do let a ← Reader.u2; pure (.getstatic a) : Decoder Instr) ∧ f 180 = (do let a ← Reader.u2; pure (.getfield a) : Decoder Instr) ∧ f 181 = (do let a ← Reader.u2; pure (.putfield a) : Decoder Instr) ∧ f 182 = (do let a ← Reader.u2; pure (.invokevirtual a) : Decoder Instr) ∧ f 183 = (do let a ← Reader.u2; pure (.invokespecial a) : Decoder Instr) ∧ f 184 = (do let a ← Reader.u2; pure (.invokestatic a) : Decoder Instr) ∧ f 187 = (do let a ← Reader.u2; pure (.new a) : Decoder Instr) ∧ f 190 = (pure (.arraylength) : Decoder Instr) ∧ f 191 = (pure (.athrow) : Decoder Instr) ∧ f 192 = (do let a ← Reader.u2; pure (.checkcast a) : Decoder Instr) ∧ f 198 = (do let a ← Reader.s2; pure (.ifnull a) : Decoder Instr) ∧ f 199 = (do let a ← Reader.s2; pure (.ifnonnull a) : Decoder Instr)
theorem dw_ex (pc : Nat) : ∃ f : Nat → Decoder Instr, Decoder.instr pc = (Reader.u1 >>= f) ∧ dw_A f := by
  refine ⟨_, rfl, ?_⟩
  exact ⟨rfl, rfl, rfl, rfl, rfl, rfl, rfl, rfl, rfl, rfl, rfl, rfl, rfl, rfl, rfl, rfl, rfl, rfl, rfl, rfl, rfl, rfl, rfl, rfl, rfl, rfl, rfl, rfl, rfl, rfl, rfl, rfl, rfl, rfl, rfl, rfl, rfl, rfl, rfl, rfl, rfl, rfl, rfl, rfl, rfl, rfl, rfl, rfl, rfl, rfl, rfl, rfl, rfl, rfl, rfl, rfl, rfl, rfl, rfl, rfl, rfl, rfl, rfl, rfl, rfl, rfl, rfl, rfl, rfl, rfl, rfl, rfl, rfl, rfl, rfl, rfl, rfl, rfl, rfl, rfl, rfl, rfl, rfl, rfl, rfl, rfl⟩
def dw_m : Nat := 1216432816681727166679724543185948870192478340069931128653820
abbrev dw_ops : List Nat := [2, 3, 4, 5, 6, 7, 8, 9, 10, 16, 17, 18, 19, 21, 22, 25, 26, 27, 28, 29, 30, 31, 42, 43, 44, 45, 46, 50, 54, 55, 58, 59, 60, 61, 62, 75, 76, 77, 78, 79, 83, 87, 89, 92, 96, 100, 104, 108, 112, 120, 122, 124, 126, 128, 130, 132, 133, 153, 154, 155, 156, 157, 158, 159, 160, 161, 162, 163, 164, 167, 172, 173, 176, 177, 178, 180, 181, 182, 183, 184, 187, 190, 191, 192, 198, 199]
theorem dw_opsM : ∀ b, b < 256 → Nat.testBit dw_m b = true → b ∈ dw_ops := by decide +kernel
theorem dw_arm {f : Nat → Decoder Instr} (hf : dw_A f) : ∀ b ∈ dw_ops, dw_R (f b) b := by
  obtain ⟨f2, f3, f4, f5, f6, f7, f8, f9, f10, f16, f17, f18, f19, f21, f22, f25, f26, f27, f28, f29, f30, f31, f42, f43, f44, f45, f46, f50, f54, f55, f58, f59, f60, f61, f62, f75, f76, f77, f78, f79, f83, f87, f89, f92, f96, f100, f104, f108, f112, f120, f122, f124, f126, f128, f130, f132, f133, f153, f154, f155, f156, f157, f158, f159, f160, f161, f162, f163, f164, f167, f172, f173, f176, f177, f178, f180, f181, f182, f183, f184, f187, f190, f191, f192, f198, f199⟩ := hf
  have c : ∀ (b : Nat) (l : List Nat), dw_R (f b) b → (∀ x ∈ l, dw_R (f x) x) → ∀ x ∈ b :: l, dw_R (f x) x := fun b l h1 h2 x hx => by
    rcases List.mem_cons.mp hx with e | e
    · rw [e]; exact h1
    · exact h2 x e
  refine c 2 _ (dw_R0 f2 fun _ _ => rfl) ?_
  refine c 3 _ (dw_R0 f3 fun _ _ => rfl) ?_
  refine c 4 _ (dw_R0 f4 fun _ _ => rfl) ?_
  refine c 5 _ (dw_R0 f5 fun _ _ => rfl) ?_
  refine c 6 _ (dw_R0 f6 fun _ _ => rfl) ?_
  refine c 7 _ (dw_R0 f7 fun _ _ => rfl) ?_
  refine c 8 _ (dw_R0 f8 fun _ _ => rfl) ?_
  refine c 9 _ (dw_R0 f9 fun _ _ => rfl) ?_
  refine c 10 _ (dw_R0 f10 fun _ _ => rfl) ?_
  refine c 16 _ (dw_R2 f16 fun _ _ => rfl) ?_
  refine c 17 _ (dw_R4 f17 fun _ _ => rfl) ?_
  refine c 18 _ (dw_R1 f18 fun _ _ => rfl) ?_
  refine c 19 _ (dw_R3 f19 fun _ _ => rfl) ?_
  refine c 21 _ (dw_R1 f21 fun _ _ => rfl) ?_
  refine c 22 _ (dw_R1 f22 fun _ _ => rfl) ?_
  refine c 25 _ (dw_R1 f25 fun _ _ => rfl) ?_
  refine c 26 _ (dw_R0 f26 fun _ _ => rfl) ?_
  refine c 27 _ (dw_R0 f27 fun _ _ => rfl) ?_
  refine c 28 _ (dw_R0 f28 fun _ _ => rfl) ?_
  refine c 29 _ (dw_R0 f29 fun _ _ => rfl) ?_
  refine c 30 _ (dw_R0 f30 fun _ _ => rfl) ?_
  refine c 31 _ (dw_R0 f31 fun _ _ => rfl) ?_
  refine c 42 _ (dw_R0 f42 fun _ _ => rfl) ?_
  refine c 43 _ (dw_R0 f43 fun _ _ => rfl) ?_
  refine c 44 _ (dw_R0 f44 fun _ _ => rfl) ?_
  refine c 45 _ (dw_R0 f45 fun _ _ => rfl) ?_
  refine c 46 _ (dw_R0 f46 fun _ _ => rfl) ?_
  refine c 50 _ (dw_R0 f50 fun _ _ => rfl) ?_
  refine c 54 _ (dw_R1 f54 fun _ _ => rfl) ?_
  refine c 55 _ (dw_R1 f55 fun _ _ => rfl) ?_
  refine c 58 _ (dw_R1 f58 fun _ _ => rfl) ?_
  refine c 59 _ (dw_R0 f59 fun _ _ => rfl) ?_
  refine c 60 _ (dw_R0 f60 fun _ _ => rfl) ?_
  refine c 61 _ (dw_R0 f61 fun _ _ => rfl) ?_
  refine c 62 _ (dw_R0 f62 fun _ _ => rfl) ?_
  refine c 75 _ (dw_R0 f75 fun _ _ => rfl) ?_
  refine c 76 _ (dw_R0 f76 fun _ _ => rfl) ?_
  refine c 77 _ (dw_R0 f77 fun _ _ => rfl) ?_
  refine c 78 _ (dw_R0 f78 fun _ _ => rfl) ?_
  refine c 79 _ (dw_R0 f79 fun _ _ => rfl) ?_
  refine c 83 _ (dw_R0 f83 fun _ _ => rfl) ?_
  refine c 87 _ (dw_R0 f87 fun _ _ => rfl) ?_
  refine c 89 _ (dw_R0 f89 fun _ _ => rfl) ?_
  refine c 92 _ (dw_R0 f92 fun _ _ => rfl) ?_
  refine c 96 _ (dw_R0 f96 fun _ _ => rfl) ?_
  refine c 100 _ (dw_R0 f100 fun _ _ => rfl) ?_
  refine c 104 _ (dw_R0 f104 fun _ _ => rfl) ?_
  refine c 108 _ (dw_R0 f108 fun _ _ => rfl) ?_
  refine c 112 _ (dw_R0 f112 fun _ _ => rfl) ?_
  refine c 120 _ (dw_R0 f120 fun _ _ => rfl) ?_
  refine c 122 _ (dw_R0 f122 fun _ _ => rfl) ?_
  refine c 124 _ (dw_R0 f124 fun _ _ => rfl) ?_
  refine c 126 _ (dw_R0 f126 fun _ _ => rfl) ?_
  refine c 128 _ (dw_R0 f128 fun _ _ => rfl) ?_
  refine c 130 _ (dw_R0 f130 fun _ _ => rfl) ?_
  refine c 132 _ (dw_R5 f132 fun _ _ => rfl) ?_
  refine c 133 _ (dw_R0 f133 fun _ _ => rfl) ?_
  refine c 153 _ (dw_R4 f153 fun _ _ => rfl) ?_
  refine c 154 _ (dw_R4 f154 fun _ _ => rfl) ?_
  refine c 155 _ (dw_R4 f155 fun _ _ => rfl) ?_
  refine c 156 _ (dw_R4 f156 fun _ _ => rfl) ?_
  refine c 157 _ (dw_R4 f157 fun _ _ => rfl) ?_
  refine c 158 _ (dw_R4 f158 fun _ _ => rfl) ?_
  refine c 159 _ (dw_R4 f159 fun _ _ => rfl) ?_
  refine c 160 _ (dw_R4 f160 fun _ _ => rfl) ?_
  refine c 161 _ (dw_R4 f161 fun _ _ => rfl) ?_
  refine c 162 _ (dw_R4 f162 fun _ _ => rfl) ?_
  refine c 163 _ (dw_R4 f163 fun _ _ => rfl) ?_
  refine c 164 _ (dw_R4 f164 fun _ _ => rfl) ?_
  refine c 167 _ (dw_R4 f167 fun _ _ => rfl) ?_
  refine c 172 _ (dw_R0 f172 fun _ _ => rfl) ?_
  refine c 173 _ (dw_R0 f173 fun _ _ => rfl) ?_
  refine c 176 _ (dw_R0 f176 fun _ _ => rfl) ?_
  refine c 177 _ (dw_R0 f177 fun _ _ => rfl) ?_
  refine c 178 _ (dw_R3 f178 fun _ _ => rfl) ?_
  refine c 180 _ (dw_R3 f180 fun _ _ => rfl) ?_
  refine c 181 _ (dw_R3 f181 fun _ _ => rfl) ?_
  refine c 182 _ (dw_R3 f182 fun _ _ => rfl) ?_
  refine c 183 _ (dw_R3 f183 fun _ _ => rfl) ?_
  refine c 184 _ (dw_R3 f184 fun _ _ => rfl) ?_
  refine c 187 _ (dw_R3 f187 fun _ _ => rfl) ?_
  refine c 190 _ (dw_R0 f190 fun _ _ => rfl) ?_
  refine c 191 _ (dw_R0 f191 fun _ _ => rfl) ?_
  refine c 192 _ (dw_R3 f192 fun _ _ => rfl) ?_
  refine c 198 _ (dw_R4 f198 fun _ _ => rfl) ?_
  refine c 199 _ (dw_R4 f199 fun _ _ => rfl) ?_
  intro x hx
  cases hx
theorem dw_BL {A : ByteArray} {p : Nat} {x : UInt8} {r : List UInt8} (h : A.data.toList.drop p = x :: r) : dw_B A p x.toNat ∧ A.data.toList.drop (p + 1) = r := by
  obtain ⟨⟨L⟩⟩ := A
  have h0 : L.drop p = x :: r := h
  have hp : p < L.length := by
    have e := congrArg List.length h0
    rw [List.length_drop, List.length_cons] at e
    omega
  rw [List.drop_eq_getElem_cons hp] at h0
  injection h0 with h1 h2
  refine ⟨⟨hp, ?_⟩, h2⟩
  show (L[p]).toNat = x.toNat
  rw [h1]
def dw_n (l : List UInt8) : Nat := match l with
  | [] => 256
  | x :: _ => x.toNat
theorem dw_nB {A : ByteArray} {p : Nat} {r : List UInt8} (hr : A.data.toList.drop p = r) (h : Nat.ble (dw_n r) 255 = true) : dw_B A p (dw_n r) ∧ A.data.toList.drop (p + 1) = r.tail := by
  cases r with
  | nil => exact absurd h (by decide)
  | cons x t => exact dw_BL hr
theorem dw_or {n m : Nat} {b : Bool} (h : (Nat.ble n m || b) = true) (hn : m < n) : b = true := by
  rw [Bool.or_eq_true] at h
  rcases h with h | h
  · exact absurd (Nat.le_of_ble_eq_true h) (Nat.not_le.mpr hn)
  · exact h
/-- one row against the bytes from it on -/
def dw_one (A : ByteArray) (p : Nat) (q : Instr × Nat) (l : List UInt8) : Bool := match l with
  | [] => false
  | o :: r => match Nat.testBit dw_m o.toNat with
    | false => decide (decode A p = .ok q)
    | true => match dw_F o.toNat (dw_n r) (dw_n r.tail) with
      | none => false
      | some w => decide (w = q) && ((Nat.ble q.2 1 || Nat.ble (dw_n r) 255) && (Nat.ble q.2 2 || Nat.ble (dw_n r.tail) 255))
theorem dw_oneE {A : ByteArray} {p : Nat} {q : Instr × Nat} {l : List UInt8} (hl : A.data.toList.drop p = l) (h : dw_one A p q l = true) : decode A p = .ok q := by
  cases l with
  | nil => exact absurd (show false = true from h) (by decide)
  | cons o r =>
    unfold dw_one at h
    dsimp only at h
    cases e1 : Nat.testBit dw_m o.toNat with
    | false => rw [e1] at h; exact of_decide_eq_true h
    | true =>
      rw [e1] at h
      dsimp only at h
      cases e2 : dw_F o.toNat (dw_n r) (dw_n r.tail) with
      | none => rw [e2] at h; exact absurd (show false = true from h) (by decide)
      | some w =>
        rw [e2] at h
        have h0 : (decide (w = q) && ((Nat.ble q.2 1 || Nat.ble (dw_n r) 255) && (Nat.ble q.2 2 || Nat.ble (dw_n r.tail) 255))) = true := h
        rw [Bool.and_eq_true, Bool.and_eq_true] at h0
        obtain ⟨ha, hb, hc⟩ := h0
        have hw : w = q := of_decide_eq_true ha
        rw [hw] at e2
        obtain ⟨v, n⟩ := q
        obtain ⟨ho, hr⟩ := dw_BL hl
        obtain ⟨f, ef, hf⟩ := dw_ex p
        obtain ⟨hn, hR⟩ := dw_arm hf o.toNat (dw_opsM _ (UInt8.toNat_lt _) e1) (dw_n r) (dw_n r.tail) v n e2
        have h4 := hR A (p + 1) (fun k => (dw_nB hr (dw_or hb (show 1 < n from k))).1) (fun k => (dw_nB (dw_nB hr (dw_or hb (show 1 < n by omega))).2 (dw_or hc (show 2 < n from k))).1)
        have e0 : decode A p = (Reader.runAt (Decoder.instr p) A p >>= fun q => pure (q.1, q.2 - p)) := rfl
        have e3 : decode A p = (Reader.runAt (f o.toNat) A (p + 1) >>= fun q => pure (q.1, q.2 - p)) := by
          rw [e0, ef, dw_bindE, dw_u1B ho]
          rfl
        rw [e3, h4]
        show (Except.ok (v, p + 1 + (n - 1) - p) : Except DecodeError (Instr × Nat)) = .ok (v, n)
        rw [show p + 1 + (n - 1) - p = n by omega]
/-- all rows, one behind the other -/
def dw_wk (A : ByteArray) : List (Nat × Instr × Nat) → List UInt8 → Nat → Bool
  | [], _, _ => true
  | q :: t, l, z => Nat.ble z q.1 && (dw_one A q.1 q.2 (l.drop (q.1 - z)) && dw_wk A t (l.drop (q.1 - z)) q.1)
theorem dw_wkE {A : ByteArray} : ∀ (dt : List (Nat × Instr × Nat)) (l : List UInt8) (z : Nat), A.data.toList.drop z = l → dw_wk A dt l z = true → ∀ q ∈ dt, decode A q.1 = .ok q.2
  | [], _, _, _, _ => fun q hq => by cases hq
  | q :: t, l, z, hl, h => by
    have h0 : (Nat.ble z q.1 && (dw_one A q.1 q.2 (l.drop (q.1 - z)) && dw_wk A t (l.drop (q.1 - z)) q.1)) = true := h
    rw [Bool.and_eq_true, Bool.and_eq_true] at h0
    obtain ⟨h1, h2, h3⟩ := h0
    have hz : z ≤ q.1 := Nat.le_of_ble_eq_true h1
    have hd : A.data.toList.drop q.1 = l.drop (q.1 - z) := by
      rw [← hl, List.drop_drop]
      congr 1
      omega
    intro q2 hq
    rcases List.mem_cons.mp hq with e | e
    · rw [e]; exact dw_oneE hd h2
    · exact dw_wkE t _ _ hd h3 q2 e
theorem dw_all {A : ByteArray} {dt : List (Nat × Instr × Nat)} (h : dw_wk A dt A.data.toList 0 = true) : ∀ q ∈ dt, decode A q.1 = .ok q.2 := dw_wkE dt A.data.toList 0 rfl h
end
