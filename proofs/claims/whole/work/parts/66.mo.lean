/-! isAlike, fields -/
/-- line a begins with the name N, and with no other -/
def mt (M : List Nat) (K : List (Nat × Nat)) (N : List Nat) (a : Nat) : Bool := decide (colL M K a = some (lf M K a + N.length)) && hasNm M N (lf M K a)
theorem flF_first {M : List Nat} {K : List (Nat × Nat)} {N : List Nat} {h l : Nat} (hl : l < h) (hm : mt M K N l = true) : ∀ n i, h - i = n → i ≤ l → (flF M K N h n i = some l ↔ ∀ a, i ≤ a → a < l → mt M K N a = false) := by
  intro n
  induction n with
  | zero => intro i h1 h2; omega
  | succ n ih =>
    intro i h1 h2
    have e1 : flF M K N h (n + 1) i = if colL M K i = some (lf M K i + N.length) ∧ hasNm M N (lf M K i) = true then some i else flF M K N h n (i + 1) := by
      show (if i < h then _ else _) = _
      rw [if_pos (by omega)]
    have e2 : (colL M K i = some (lf M K i + N.length) ∧ hasNm M N (lf M K i) = true) ↔ mt M K N i = true := by
      unfold mt; rw [Bool.and_eq_true, decide_eq_true_eq]
    rw [e1]
    by_cases c : mt M K N i = true
    · rw [if_pos (e2.mpr c)]
      by_cases q : i = l
      · subst q; exact ⟨fun _ a h3 h4 => by omega, fun _ => rfl⟩
      · refine ⟨fun w => absurd (Option.some.inj w) q, fun w => ?_⟩
        rw [w i (Nat.le_refl _) (by omega)] at c; cases c
    · rw [if_neg (fun w => c (e2.mp w))]
      have q : i ≠ l := fun w => c (by rw [w]; exact hm)
      rw [ih (i + 1) (by omega) (by omega)]
      refine ⟨fun w a h3 h4 => ?_, fun w a h3 h4 => w a (by omega) h4⟩
      by_cases q2 : a = i
      · subst q2; rw [Bool.not_eq_true] at c; exact c
      · exact w a (by omega) h4
theorem hasNm_self {M : List Nat} {s c : Nat} (hc : c ≤ M.length) : ∀ n k, k + n = c - s → hasNmF M (sub M s c) s n k = true := by
  intro n
  induction n with
  | zero => intro k _; rfl
  | succ n ih =>
    intro k hk
    show (if _ then _ else _) = _
    rw [if_pos ⟨by omega, by rw [sub_get hc (by omega)]⟩]
    exact ih (k + 1) (by omega)
theorem mt_self {M : List Nat} {K : List (Nat × Nat)} (hL : zL M K) {l c : Nat} (hc : colL M K l = some c) : mt M K (sub M (lf M K l) c) l = true := by
  have h1 := colL_lt hc
  have h2 := hL.f_le l
  unfold mt
  rw [sub_len (by omega), show lf M K l + (c - lf M K l) = c by omega, decide_eq_true hc, Bool.true_and]
  unfold hasNm
  rw [sub_len (by omega)]
  exact hasNm_self (by omega) _ _ (by omega)
section YAl
variable {b : xhp} {ad : Nat → Nat} {M : List Nat} {K : List (Nat × Nat)} {y : yS} {f : xhp}
theorem y_isAlike (h : yM b f ad y) (hM : yMl y M) (hK : yLn y K) (hL : zL M K) {a l ca cl : Nat} (ha : a < K.length) (hl : l < K.length) (hca : colL M K a = some ca) (hcl : colL M K l = some cl) {post : Int32 → xhp → Prop} (hp : post (zb (mt M K (sub M (lf M K l) cl) a)) f) : w_Mo_isAlike post (ad 57) (nI a) (nI l) f := by
  have hM2 := hM.2.2.1
  have bM := hM.2.2.2
  have hKl : K.length ≤ 1500 := Nat.le_trans hL.1 hM2
  have a1 := colL_lt hca
  have a2 := hL.f_le a
  have l1 := colL_lt hcl
  have l2 := hL.f_le l
  have a24 := h.ai 24 (t := 0) rfl (by decide) (by decide)
  have a20 := h.ai 20 (t := 3) rfl (by decide) (by decide)
  have va : vp_in (nI a) 1501 := vp_in_nI (by omega) (by decide)
  have vl : vp_in (nI l) 1501 := vp_in_nI (by omega) (by decide)
  have ea : y.1 24 a = nI (lf M K a) := by rw [(hK.1 a ha).1, lf_in ha]
  have el : y.1 24 l = nI (lf M K l) := by rw [(hK.1 l hl).1, lf_in hl]
  have sl : (sub M (lf M K l) cl).length = cl - lf M K l := sub_len (by omega)
  refine ⟨h.O, y_colon h hM hK hL ha ⟨_, ⟨_, h.2.2.1, rfl⟩, _, _, a24, va, h.O, y_colon h hM hK hL hl ⟨_, ⟨_, h.2.2.1, rfl⟩, _, _, a24, vl, ?_⟩⟩⟩
  rw [nI_cl a (by omega), nI_cl l (by omega), ea, el, hca, hcl]
  show ((nI cl - nI (lf M K l) = nI ca - nI (lf M K a) → _) ∧ (¬ nI cl - nI (lf M K l) = nI ca - nI (lf M K a) → _))
  rw [nI_sub' (by omega), nI_sub' (by omega), nI_eq (by omega) (by omega)]
  refine ⟨fun c => ⟨(ca - lf M K a) + 1, ?_⟩, fun c => ?_⟩
  · have em : mt M K (sub M (lf M K l) cl) a = hasNmF M (sub M (lf M K l) cl) (lf M K a) (ca - lf M K a) 0 := by
      unfold mt hasNm
      rw [sl, c, show lf M K a + (ca - lf M K a) = ca by omega, decide_eq_true hca, Bool.true_and]
    rw [em] at hp
    have loop : ∀ n k, k + n = ca - lf M K a → post (zb (hasNmF M (sub M (lf M K l) cl) (lf M K a) n k)) f → w_Mo_isAlike_34 post (n + 1) (ad 57) (nI a) (nI l) (nI (ca - lf M K a)) (nI k) f := by
      intro n
      induction n with
      | zero => intro k hk hq; exact ⟨fun _ => ⟨Or.inr rfl, hq⟩, fun w => absurd (nI_le (by omega) (by omega)) w⟩
      | succ n ih =>
        intro k hk hq
        have e1 : hasNmF M (sub M (lf M K l) cl) (lf M K a) (n + 1) k = if lf M K a + k < M.length ∧ low (M.getD (lf M K a + k) 0) = low ((sub M (lf M K l) cl).getD k 0) then hasNmF M (sub M (lf M K l) cl) (lf M K a) n (k + 1) else false := rfl
        rw [e1, sub_get (by omega) (by omega)] at hq
        refine ⟨fun w => absurd w (by rw [nI_leI (by omega) (by omega)]; omega), fun _ => ⟨_, ⟨_, h.2.2.1, rfl⟩, _, ⟨_, h.2.2.1, rfl⟩, _, _, a24, va, _, _, a20, ?_, ?_⟩⟩
        · rw [nI_cl a (by omega), ea, nI_add]; exact vp_in_nI (by show lf M K a + k < 1500; omega) (by decide)
        · rw [nI_cl a (by omega), ea, nI_add, nI_cl (lf M K a + k) (by omega), hM.1 _ (by omega)]
          refine y_small (bM _) ⟨_, ⟨_, h.2.2.1, rfl⟩, _, ⟨_, h.2.2.1, rfl⟩, _, _, a24, vl, _, _, a20, ?_, ?_⟩
          · rw [nI_cl l (by omega), el, nI_add]; exact vp_in_nI (by show lf M K l + k < 1500; omega) (by decide)
          · rw [nI_cl l (by omega), el, nI_add, nI_cl (lf M K l + k) (by omega), hM.1 _ (by omega)]
            refine y_small (bM _) ?_
            rw [sb_eq (low_lt (bM _)) (low_lt (bM _))]
            refine ⟨fun w => ?_, fun w => ?_⟩
            · rw [if_pos ⟨by omega, w⟩] at hq
              rw [nI_1]; exact ih (k + 1) (by omega) hq
            · rw [if_neg (fun v => w v.2)] at hq
              exact ⟨Or.inl rfl, hq⟩
    have := loop _ 0 (by omega) hp
    rw [← nI_sub' (show lf M K a ≤ ca by omega)] at this
    exact this
  · have em : mt M K (sub M (lf M K l) cl) a = false := by
      unfold mt
      rw [sl, decide_eq_false, Bool.false_and]
      rw [hca]
      intro w
      have := Option.some.inj w
      omega
    rw [em] at hp
    exact ⟨Or.inl rfl, hp⟩
end YAl
