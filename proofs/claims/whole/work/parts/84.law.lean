/-! THE LAW: what the tables and the start say -/
def lwTm (i : Nat) : Term := .string "MailParts" ([35, 44, 49, 54, 59, 64, 244, 296, 231, 237, 242, 246, 251, 259, 280, 282, 284].getD i 0)
def lwFl : List Cond := flatC (Jvm.Cond.and given_1 narrow_1)
/-- where a literal's words begin -/
def lwP (i : Nat) : Nat := [9, 25, 55, 80, 95, 111, 124, 148, 169, 186, 208, 232, 268, 300, 327, 349, 372].getD i 0
theorem lt_h4 : ∀ i, i < 17 → lwFl[lwP i]? = some (Cond.exactly (lwTm i) "java/lang/String") ∧ lwFl[lwP i + 1]? = some (Cond.eq (.field (lwTm i) "java/lang/String" "coder" "B") (.int 0)) ∧ lwFl[lwP i + 2]? = some (Cond.arrayOf (.field (lwTm i) "java/lang/String" "value" "[B") .byte) ∧ lwFl[lwP i + 3]? = some (Cond.eq (.length (.field (lwTm i) "java/lang/String" "value" "[B")) (.int (Int32.ofNat (xlenS.getD i 0)))) := by decide +kernel
theorem lt_el : ∀ i, i < 17 → ∀ j, j < xlenS.getD i 0 → lwFl[lwP i + 4 + j]? = some (Cond.eq (.elem (.field (lwTm i) "java/lang/String" "value" "[B") (.int (Int32.ofNat j))) (.int ((xbytS.getD i []).getD j 0))) := by decide +kernel
theorem lt_ne : ∀ i, i < 17 → ∀ j, j < i → lwFl[lwP i + 4 + xlenS.getD i 0 + j]? = some (Cond.not (Cond.eq (lwTm j) (lwTm i))) := by decide +kernel
theorem lt_cs : Cond.eq (.static "java/lang/String" "COMPACT_STRINGS" "Z") (.int 1) ∈ lwFl := by decide +kernel
theorem lt_si : Cond.isRef (.static "jdk/internal/util/Preconditions" "SIOOBE_FORMATTER" "Ljava/util/function/BiFunction;") ∈ lwFl := by decide +kernel
