/-! An exception of a class X whose constructor of a text hands it on through Y and 'names' up to Throwable: made and thrown out of the method, nothing caught there. -/
def m_xOwn (own : String) (ic : Nat) (cls : String) : List Cond := [.methodLink own ic (Bundle.initS cls), .instantiable cls 6, .selects cls Bundle.tFill0 Bundle.tFill0, .selects cls Bundle.tFill Bundle.tFill,
  .lays cls Bundle.tN "cause" "Ljava/lang/Throwable;", .lays cls Bundle.tN "stackTrace" Bundle.steD, .lays cls Bundle.tN "suppressedExceptions" Bundle.listD, .lays cls Bundle.tN "detailMessage" "Ljava/lang/String;",
  .isRef (.static Bundle.tN "UNASSIGNED_STACK" Bundle.steD), .isRef (.static Bundle.tN "SUPPRESSED_SENTINEL" Bundle.listD),
  .fieldLink Bundle.tN 198 Bundle.tN "backtrace" "Ljava/lang/Object;", .lays Bundle.tN Bundle.tN "backtrace" "Ljava/lang/Object;", .lays cls Bundle.tN "backtrace" "Ljava/lang/Object;"]
def m_xAtoms (own : String) (ic : Nat) (cls Y : String) (ix : Nat) (rx : ByteArray) (names : List String) : List Cond := Bundle.throwableAtoms ++ (Bundle.throwableSAtoms ++ (Bundle.passSAtoms cls Y ix rx ++ (Bundle.chainSAtoms Y names ++ m_xOwn own ic cls)))
def m_two : List Cond := [.isRef (.static "java/lang/Throwable" "UNASSIGNED_STACK" "[Ljava/lang/StackTraceElement;"), .isRef (.static "java/lang/Throwable" "SUPPRESSED_SENTINEL" "Ljava/util/List;")]
def m_rx (ix : UInt8) : ByteArray := ⟨#[0x2a, 0x2b, 0xb7, 0x00, ix, 0xb1]⟩
theorem m_oa_iae : ∀ a ∈ m_xAtoms "EdgeHouse" 88 "java/lang/IllegalArgumentException" "java/lang/RuntimeException" 7 (m_rx 7) ["java/lang/Exception"], a ∈ lw_tbl ∨ a ∈ m_two := by decide +kernel
theorem m_oa_nse : ∀ a ∈ m_xAtoms "EdgeHouse" 224 "java/util/NoSuchElementException" "java/lang/RuntimeException" 13 (m_rx 13) ["java/lang/Exception"], a ∈ lw_tbl ∨ a ∈ m_two := by decide +kernel
theorem m_oa_ioo : ∀ a ∈ m_xAtoms "EdgeHouse" 229 "java/lang/IndexOutOfBoundsException" "java/lang/RuntimeException" 7 (m_rx 7) ["java/lang/Exception"], a ∈ lw_tbl ∨ a ∈ m_two := by decide +kernel
