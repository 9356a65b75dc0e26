/-! THE REFERENCE's STATE: arrays by the number of their field, the long array, int fields, long fields -/
abbrev yS : Type := (Nat → Nat → Int32) × (Nat → Int64) × (Nat → Int32) × (Nat → Int64)
def yln (k : Nat) : Nat := [12, 25, 19, 8, 8, 4, 10, 9, 5, 10, 16, 21, 14, 10, 4, 4, 6, 20, 1500, 0, 1500, 0, 0, 0, 1501, 1501, 0, 0, 60, 60, 60, 60, 60, 60, 60, 60, 0, 0, 0, 420, 420, 420, 0, 400, 400, 1500, 0, 0, 0, 0, 1510, 1510, 1500, 0, 1500, 0, 1500].getD k 0
/-- 0 an int array, 3 a byte array, 4 a long array, 9 no array -/
def ytg (k : Nat) : Nat := [0, 0, 0, 0, 0, 0, 0, 0, 0, 0, 0, 0, 0, 0, 0, 0, 0, 3, 3, 9, 3, 9, 9, 9, 0, 0, 9, 9, 0, 0, 0, 0, 0, 0, 0, 4, 9, 9, 9, 0, 0, 0, 9, 0, 0, 3, 9, 9, 9, 9, 0, 0, 3, 9, 3, 9, 0].getD k 9
def yfl (ad : Nat → Nat) (s : Nat → Int32) (l : Nat → Int64) : List Value := [.ref (ad 0), .ref (ad 1), .ref (ad 2), .ref (ad 3), .ref (ad 4), .ref (ad 5), .ref (ad 6), .ref (ad 7), .ref (ad 8), .ref (ad 9), .ref (ad 10), .ref (ad 11), .ref (ad 12), .ref (ad 13), .ref (ad 14), .ref (ad 15), .ref (ad 16), .ref (ad 17), .ref (ad 18), .int (s 19), .ref (ad 20), .int (s 21), .int (s 22), .int (s 23), .ref (ad 24), .ref (ad 25), .int (s 26), .int (s 27), .ref (ad 28), .ref (ad 29), .ref (ad 30), .ref (ad 31), .ref (ad 32), .ref (ad 33), .ref (ad 34), .ref (ad 35), .long (l 36), .long (l 37), .int (s 38), .ref (ad 39), .ref (ad 40), .ref (ad 41), .int (s 42), .ref (ad 43), .ref (ad 44), .ref (ad 45), .int (s 46), .int (s 47), .int (s 48), .int (s 49), .ref (ad 50), .ref (ad 51), .ref (ad 52), .int (s 53), .ref (ad 54), .int (s 55), .ref (ad 56)]
def ybd (y : yS) (k : Nat) : xbd := if k = 35 then xbL y.2.1 else xbI (y.1 k)
/-- a cell of its own: an array, or 57, the object -/
def yow (k : Nat) : Bool := k == 57 || ytg k != 9
def yM (b f : xhp) (ad : Nat → Nat) (y : yS) : Prop :=
  (∀ i j, yow i = true → yow j = true → ad i = ad j → i = j) ∧ (∀ a, (∀ k, yow k = true → a ≠ ad k) → f a = b a) ∧ f (ad 57) = some (.inr (5, yfl ad y.2.2.1 y.2.2.2)) ∧ ∀ k, ytg k ≠ 9 → f (ad k) = some (.inl (ytg k, yln k, ybd y k))
theorem ytg_57 : ∀ k, ytg k ≠ 9 → k < 57 := by
  intro k h
  apply Classical.byContradiction
  intro c
  apply h
  unfold ytg
  rw [List.getD_eq_getElem?_getD, List.getElem?_eq_none (by simp only [List.length_cons, List.length_nil]; omega)]
  rfl
theorem yow_a {k : Nat} (h : ytg k ≠ 9) : yow k = true := by unfold yow; simp [h]
section YM
variable {b f : xhp} {ad : Nat → Nat} {y : yS}
theorem yM.O (h : yM b f ad y) : xO f (ad 57) 5 := ⟨_, h.2.2.1⟩
theorem yM.ai (h : yM b f ad y) (k : Nat) {t : Nat} (ht : ytg k = t) (h9 : t ≠ 9) (h35 : k ≠ 35) : xB f (ad k) t (yln k) (xbI (y.1 k)) := by
  have := h.2.2.2 k (by rw [ht]; exact h9)
  unfold ybd at this
  rw [if_neg h35, ht] at this
  exact this
theorem yM.aL (h : yM b f ad y) : xB f (ad 35) 4 60 (xbL y.2.1) := h.2.2.2 35 (by decide)
/-- another cell for an array -/
theorem yM.setA (h : yM b f ad y) {k : Nat} (hk : ytg k ≠ 9) {y' : yS} (hs : y'.2.2 = y.2.2) (hb : ∀ j, j ≠ k → ybd y' j = ybd y j) : yM b (xup f (ad k) (.inl (ytg k, yln k, ybd y' k))) ad y' := by
  obtain ⟨hi, hb0, ho, ha⟩ := h
  have ne : ∀ j, yow j = true → j ≠ k → ad j ≠ ad k := fun j hj n e => n (hi j k hj (yow_a hk) e)
  refine ⟨hi, fun a hq => ?_, ?_, fun j hj => ?_⟩
  · rw [xup_ne _ _ (hq k (yow_a hk))]; exact hb0 a hq
  · rw [xup_ne _ _ (ne 57 rfl (fun e => by have := ytg_57 k hk; omega)), hs]; exact ho
  · by_cases e : j = k
    · subst e; exact xup_self _ _ _
    · rw [xup_ne _ _ (ne j (yow_a hj) e), hb j e]; exact ha j hj
theorem yM.setO (h : yM b f ad y) {s : Nat → Int32} {l : Nat → Int64} {fs : List Value} (hf : fs = yfl ad s l) : yM b (xup f (ad 57) (.inr (5, fs))) ad (y.1, y.2.1, s, l) := by
  subst hf
  obtain ⟨hi, hb0, ho, ha⟩ := h
  refine ⟨hi, fun a hq => ?_, xup_self _ _ _, fun j hj => ?_⟩
  · rw [xup_ne _ _ (hq 57 rfl)]; exact hb0 a hq
  · rw [xup_ne _ _ (fun e => by have := hi j 57 (yow_a hj) rfl e; have := ytg_57 j hj; omega)]; exact ha j hj
theorem yfl_set (ad : Nat → Nat) (s : Nat → Int32) (l : Nat → Int64) (v : Int32) : ∀ k, ytg k = 9 → k < 57 → k ≠ 36 → k ≠ 37 → (yfl ad s l).set k (.int v) = yfl ad (va_up s k v) l := by
  intro k h1 h2 h3 h4
  have : k = 19 ∨ k = 21 ∨ k = 22 ∨ k = 23 ∨ k = 26 ∨ k = 27 ∨ k = 38 ∨ k = 42 ∨ k = 46 ∨ k = 47 ∨ k = 48 ∨ k = 49 ∨ k = 53 ∨ k = 55 := by
    have key : ∀ k, k < 57 → ((ytg k != 9 || k == 36 || k == 37) || ([19, 21, 22, 23, 26, 27, 38, 42, 46, 47, 48, 49, 53, 55] : List Nat).contains k) = true := by decide +kernel
    have := key k h2
    rw [show (ytg k != 9 || k == 36 || k == 37) = false by simp [h1, h3, h4], Bool.false_or] at this
    simpa using this
  rcases this with h | h | h | h | h | h | h | h | h | h | h | h | h | h <;> (subst h; rfl)
/-- a write to an int field -/
theorem m_ws (h : yM b f ad y) {k : Nat} {v : Int32} (h1 : ytg k = 9) (h2 : k < 57) (h3 : k ≠ 36) (h4 : k ≠ 37) {Q : xhp → Prop} (hp : ∀ f2, yM b f2 ad (y.1, y.2.1, va_up y.2.2.1 k v, y.2.2.2) → Q f2) : ∃ fs : List Value, f (ad 57) = some (.inr (5, fs)) ∧ k < fs.length ∧ ∀ f2 : xhp, f2 = xup f (ad 57) (.inr (5, fs.set k (.int v))) → Q f2 := by
  refine ⟨_, h.2.2.1, h2, fun f2 e => hp f2 ?_⟩
  subst e
  exact h.setO (yfl_set _ _ _ _ k h1 h2 h3 h4)
/-- a write to an int or byte array -/
theorem m_wa (h : yM b f ad y) {k t : Nat} (ht : ytg k = t) (h9 : t ≠ 9) (h35 : k ≠ 35) {j : Nat} {v v' : Int32} (hv : v = v') (hj : j < yln k) (hj2 : j < 2 ^ 31) {Q : xhp → Prop} (hp : ∀ f2, yM b f2 ad (va_up y.1 k (upd (y.1 k) j v'), y.2) → Q f2) : ∃ (n : Nat) (g : Nat → Int32), xB f (ad k) t n (xbI g) ∧ vp_in (nI j) n ∧ ∀ f2 : xhp, f2 = xup f (ad k) (.inl (t, n, xbI (upd g (nI j).toNatClampNeg v))) → Q f2 := by
  have hl : yln k < 2 ^ 31 := by
    unfold yln
    have key : ∀ x ∈ ([12, 25, 19, 8, 8, 4, 10, 9, 5, 10, 16, 21, 14, 10, 4, 4, 6, 20, 1500, 0, 1500, 0, 0, 0, 1501, 1501, 0, 0, 60, 60, 60, 60, 60, 60, 60, 60, 0, 0, 0, 420, 420, 420, 0, 400, 400, 1500, 0, 0, 0, 0, 1510, 1510, 1500, 0, 1500, 0, 1500] : List Nat), x < 2 ^ 31 := by decide
    by_cases c : k < 57
    · rw [List.getD_eq_getElem?_getD, List.getElem?_eq_getElem (by simpa using c)]
      exact key _ (List.getElem_mem _)
    · rw [List.getD_eq_getElem?_getD, List.getElem?_eq_none (by simp only [List.length_cons, List.length_nil]; omega)]
      decide
  refine ⟨_, _, h.ai k ht h9 h35, vp_in_nI hj hl, fun f2 e => hp f2 ?_⟩
  rw [nI_clamp hj2, hv] at e
  have := h.setA (k := k) (y' := (va_up y.1 k (upd (y.1 k) j v'), y.2)) (by rw [ht]; exact h9) rfl (fun i hi => by unfold ybd; dsimp only; rw [zup_ne _ _ hi])
  subst e
  have e2 : ybd (va_up y.1 k (upd (y.1 k) j v'), y.2) k = xbI (upd (y.1 k) j v') := by unfold ybd; rw [if_neg h35]; dsimp only; rw [zup_self]
  rw [e2, ht] at this
  exact this
end YM
