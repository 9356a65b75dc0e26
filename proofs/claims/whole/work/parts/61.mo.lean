/-! the reference's ENTITIES; a digest's part -/
theorem eqF_get {L P : List Nat} {a : Nat} : ∀ n k, eqF L P a n k = true → ∀ j, k ≤ j → j < k + n → L.getD (a + j) 0 = P.getD j 0 := by
  intro n
  induction n with
  | zero => intro k _ j h1 h2; omega
  | succ n ih =>
    intro k h j h1 h2
    rw [eqF_eq] at h
    by_cases c : L.getD (a + k) 0 = P.getD k 0
    · rw [if_pos c] at h
      by_cases q : j = k
      · subst q; exact c
      · exact ih (k + 1) h j (by omega) (by omega)
    · rw [if_neg c] at h; cases h
theorem isW_eq {L P : List Nat} (h : isW L P = true) : L = P := by
  unfold isW at h
  rw [Bool.and_eq_true, decide_eq_true_eq] at h
  apply gd_ext h.1
  intro i hi
  have := eqF_get _ _ h.2 i (Nat.zero_le _) (by omega)
  rw [Nat.zero_add] at this
  exact this
theorem eqF_self (P : List Nat) : ∀ n k, eqF P P 0 n k = true := by
  intro n
  induction n with
  | zero => intro k; rfl
  | succ n ih => intro k; rw [eqF_eq, Nat.zero_add, if_pos rfl]; exact ih _
theorem isW_self (P : List Nat) : isW P P = true := by
  unfold isW
  rw [decide_eq_true rfl, Bool.true_and]; exact eqF_self _ _ _
theorem x_ne : xbN 6 ≠ xbN 12 ∧ xbN 7 ≠ xbN 12 ∧ isTy (xbN 12) = true := by decide +kernel
theorem dgl {M : List Nat} {K : List (Nat × Nat)} {u : eT} (hk : tK M K u ≠ 0) : tG M K u = (decide (tK M K u = 1) && isW (itm (ctV M K u.2.2.1 (tH M K u))) (xbN 12)) := by
  have e2 : tK M K u = if u.2.1 < 8 then (if muH M K u.2.2.1 (tH M K u) u.2.2.2.2 = true then 1 else if ecH M K u.2.2.1 (tH M K u) u.2.2.2.2 = true then 2 else 0) else 0 := kdH_eq M K u.2.2.1 (tH M K u) u.2.1 u.2.2.2.2
  have iff1 : tG M K u = true ↔ isW (itm (ctV M K u.2.2.1 (tH M K u))) (xbN 12) = true := by
    show isW (typ M K u.2.2.1 (tH M K u) u.2.2.2.2) (xbN 12) = true ↔ _
    unfold typ
    constructor
    · intro h
      by_cases c : isTy (itm (ctV M K u.2.2.1 (tH M K u))) = true
      · rw [if_pos c] at h; exact h
      · rw [if_neg c] at h
        have := isW_eq h
        by_cases c1 : u.2.2.2.2 = true
        · rw [if_pos c1] at this; exact absurd this x_ne.1
        · rw [if_neg c1] at this; exact absurd this x_ne.2.1
    · intro h
      have e := isW_eq h
      rw [if_pos (by rw [e]; exact x_ne.2.2)]; exact h
  by_cases c : tG M K u = true
  · have h12 : typ M K u.2.2.1 (tH M K u) u.2.2.2.2 = xbN 12 := isW_eq c
    have hec : ecH M K u.2.2.1 (tH M K u) u.2.2.2.2 = false := by
      rw [← Bool.not_eq_true]
      intro w
      unfold ecH at w
      rw [Bool.and_eq_true] at w
      have := isW_eq w.1
      rw [h12] at this
      exact x_ne.1 this.symm
    have h1 : tK M K u = 1 := by
      rw [hec] at e2
      by_cases c1 : u.2.1 < 8
      · rw [if_pos c1] at e2
        by_cases c2 : muH M K u.2.2.1 (tH M K u) u.2.2.2.2 = true
        · rw [if_pos c2] at e2; exact e2
        · rw [if_neg c2, if_neg (by decide)] at e2; exact absurd e2 hk
      · rw [if_neg c1] at e2; exact absurd e2 hk
    rw [c, decide_eq_true h1, iff1.mp c]; rfl
  · have h2 : isW (itm (ctV M K u.2.2.1 (tH M K u))) (xbN 12) = false := by
      rw [← Bool.not_eq_true]; exact fun w => c (iff1.mpr w)
    rw [h2, Bool.and_false]
    exact Bool.not_eq_true _ ▸ c
def yEn (y : yS) (M : List Nat) (K : List (Nat × Nat)) (R : List eT) (lost : Nat) : Prop :=
  y.2.2.1 26 = nI R.length ∧ y.2.2.1 27 = nI lost ∧ R.length ≤ 60 ∧ ∀ i, i < R.length → tOK M K R i (R.getD i t0) ∧ (R.getD i t0).2.1 ≤ 8 ∧ y.1 28 i = nI (R.getD i t0).2.2.1 ∧ y.1 29 i = nI (R.getD i t0).2.2.2.1 ∧ y.1 30 i = nI (tH M K (R.getD i t0)) ∧ y.1 31 i = nI (tB M K (R.getD i t0)) ∧ y.1 32 i = iI (R.getD i t0).1 ∧ y.1 33 i = nI (R.getD i t0).2.1 ∧ y.1 34 i = nI (tK M K (R.getD i t0))
theorem yEn.pc {y : yS} {M : List Nat} {K : List (Nat × Nat)} {R : List eT} {lost i : Nat} {t : eT} (h : yEn y M K R lost) (ok : tOK M K R i t) (hi : i ≤ R.length) : (iI t.1 = -1 ∧ t.2.2.2.2 = false) ∨ ∃ p fr' h' kp, p < 60 ∧ p < i ∧ iI t.1 = nI p ∧ y.1 28 p = nI fr' ∧ y.1 30 p = nI h' ∧ hdP M K fr' h' ∧ kp ≤ 2 ∧ y.1 34 p = nI kp ∧ t.2.2.2.2 = (decide (kp = 1) && isW (itm (ctV M K fr' h')) (xbN 12)) := by
  by_cases q : t.1 = 0
  · exact Or.inl ⟨by rw [q]; rfl, (ok.2.2.2.1 q).2.1⟩
  · obtain ⟨o1, o2, o3⟩ := ok.2.2.2.2 (by omega)
    have hp : t.1 - 1 < R.length := by have := ok.1; omega
    obtain ⟨k1, k2, f28, f29, f30, f31, f32, f33, f34⟩ := h.2.2.2 (t.1 - 1) hp
    have h60 := h.2.2.1
    refine Or.inr ⟨t.1 - 1, _, _, _, by omega, by have := ok.1; omega, by unfold iI; rw [if_neg q], f28, f30, hd_P k1.2.1 k1.2.2.1, kdH_le _ _ _ _ _ _, f34, ?_⟩
    rw [o2]; exact dgl o3
