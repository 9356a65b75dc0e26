/-! marked -/
def yMk (y : yS) (B : List Nat) : Prop := yB y 54 B ∧ y.2.2.1 55 = nI B.length ∧ B.length ≤ 1500 ∧ zB B
theorem yMk.k {y y' : yS} {B : List Nat} {as ss : List Nat} (h : yMk y B) (hk : yK as ss y y') (h1 : 54 ∉ as) (h2 : 55 ∉ ss) : yMk y' B :=
  ⟨fun i hi => by rw [hk.1 54 h1]; exact h.1 i hi, by rw [hk.2.2.1 55 h2]; exact h.2.1, h.2.2⟩
theorem dsh_eq (M : List Nat) (i e : Nat) : dsh M i e = true ↔ i + 1 < e ∧ M.getD i 0 = 45 ∧ M.getD (i + 1) 0 = 45 := by
  unfold dsh
  rw [Bool.and_eq_true, Bool.and_eq_true, decide_eq_true_eq, beq_iff_eq, beq_iff_eq]
theorem eqF_eq (M B : List Nat) (a n k : Nat) : eqF M B a (n + 1) k = if M.getD (a + k) 0 = B.getD k 0 then eqF M B a n (k + 1) else false := rfl
section YMa
variable {b : xhp} {ad : Nat → Nat} {M : List Nat} {K : List (Nat × Nat)} {y : yS} {f : xhp} {B : List Nat}
theorem y_marked (h : yM b f ad y) (hM : yMl y M) (hK : yLn y K) (hL : zL M K) (hB : yMk y B) {l : Nat} (hl : l < K.length) {post : Int32 → xhp → Prop} (hp : post (nI (mk M B (lf M K l) (lt M K l))) f) : w_Mo_marked post (ad 57) (nI l) f := by
  have hM2 := hM.2.2.1
  have bM := hM.2.2.2
  have hB2 := hB.2.2.1
  have hKl : K.length ≤ 1500 := Nat.le_trans hL.1 hM2
  have hle := hL.f_le l
  have e24 : y.1 24 l = nI (lf M K l) := by rw [(hK.1 l hl).1, lf_in hl]
  have e25 : y.1 25 l = nI (lt M K l) := by rw [(hK.1 l hl).2, lt_in hl]
  have a24 := h.ai 24 (t := 0) rfl (by decide) (by decide)
  have a25 := h.ai 25 (t := 0) rfl (by decide) (by decide)
  have a20 := h.ai 20 (t := 3) rfl (by decide) (by decide)
  have vl : vp_in (nI l) 1501 := vp_in_nI (by omega) (by decide)
  generalize lf M K l = s at *
  generalize lt M K l = e at *
  have ch45 : ∀ i, sb (M.getD i 0) = 45 ↔ M.getD i 0 = 45 := fun i => (sb_ch _ (bM i)).2.2.2.2.2.2.2.2
  have v55 : xV f (ad 57) 5 55 (.int (nI B.length)) := ⟨_, h.2.2.1, by rw [← hB.2.1]; rfl⟩
  -- the blanks behind
  have f150 : ∀ (q : Bool) (n i : Nat), e - i = n → i < 2 ^ 30 → post (nI (if e ≤ skp isBlk M e n i then (if q = true then 2 else 1) else 0)) f → w_Mo_marked_150 post (n + 1) (ad 57) (nI l) (nI i) (zb q) f := by
    intro q n
    have f178 : ∀ i, i < 2 ^ 30 → post (nI (if e ≤ i then (if q = true then 2 else 1) else 0)) f → w_Mo_marked_178 post (ad 57) (nI l) (nI i) (zb q) f := by
      intro i hi hq
      refine ⟨_, ⟨_, h.2.2.1, rfl⟩, _, _, a25, vl, ?_⟩
      rw [nI_cl l (by omega), e25, nI_leI (by omega) (by omega)]
      refine ⟨fun c => ?_, fun c => ?_⟩
      · rw [if_pos c] at hq
        refine ⟨fun c1 => ?_, fun c1 => ?_⟩
        · rw [zb_0] at c1; rw [c1] at hq; exact hq
        · rw [zb_n0] at c1; rw [c1] at hq; exact hq
      · rw [if_neg c] at hq; exact hq
    induction n with
    | zero =>
      intro i hn hi hq
      refine ⟨_, ⟨_, h.2.2.1, rfl⟩, _, _, a25, vl, ?_⟩
      rw [nI_cl l (by omega), e25]
      exact ⟨fun _ => f178 i hi hq, fun c => absurd (nI_le (by omega) (by omega)) c⟩
    | succ n ih =>
      intro i hn hi hq
      have hlt : i < e := by omega
      have e1 : skp isBlk M e (n + 1) i = if isBlk (M.getD i 0) = true then skp isBlk M e n (i + 1) else i := by
        show (if i < e then _ else _) = _
        rw [if_pos hlt]
      rw [e1] at hq
      refine ⟨_, ⟨_, h.2.2.1, rfl⟩, _, _, a25, vl, ?_⟩
      rw [nI_cl l (by omega), e25]
      refine ⟨fun c => absurd c (by rw [nI_leI (by omega) (by omega)]; omega), fun _ => ⟨_, ⟨_, h.2.2.1, rfl⟩, _, _, a20, vp_in_nI (by show i < 1500; omega) (by decide), ?_⟩⟩
      rw [nI_cl i (by omega), hM.1 i (by omega)]
      refine y_blank (bM i) ⟨fun c => ?_, fun c => ?_⟩
      · rw [zb_0] at c
        rw [c, if_neg Bool.false_ne_true] at hq
        exact f178 i hi hq
      · rw [zb_n0] at c
        rw [c, if_pos rfl] at hq
        rw [nI_1 i]
        exact ih (i + 1) (by omega) (by omega) hq
  refine ⟨_, ⟨_, h.2.2.1, rfl⟩, _, _, a24, vl, _, ⟨_, h.2.2.1, rfl⟩, _, _, a25, vl, nI B.length, v55, ?_⟩
  rw [nI_cl l (by omega), e24, e25, nI_sub' hle.1, show (2 : Int32) = nI 2 from rfl, nI_add, nI_ltI (by omega) (by omega)]
  have no : ¬ (dsh M s e = true ∧ B.length ≤ e - (s + 2) ∧ eqF M B (s + 2) B.length 0 = true) → post 0 f := by
    intro q
    unfold mk at hp
    rw [if_neg q] at hp; exact hp
  refine ⟨fun c => no (fun q => ?_), fun c => ⟨_, ⟨_, h.2.2.1, rfl⟩, _, _, a20, vp_in_nI (by show s < 1500; omega) (by decide), ?_⟩⟩
  · have := (dsh_eq M s e).mp q.1; omega
  · rw [nI_cl s (by omega), hM.1 s (by omega), ch45]
    refine ⟨fun c1 => no (fun q => c1 ((dsh_eq M s e).mp q.1).2.1), fun c1 => ⟨_, ⟨_, h.2.2.1, rfl⟩, _, _, a20, ?_, ?_⟩⟩
    · rw [nI_1]; exact vp_in_nI (by show s + 1 < 1500; omega) (by decide)
    · rw [nI_1, nI_cl (s + 1) (by omega), hM.1 (s + 1) (by omega), ch45]
      refine ⟨fun c2 => ⟨B.length + 1, ?_⟩, fun c2 => no (fun q => c2 ((dsh_eq M s e).mp q.1).2.2)⟩
      have hd : dsh M s e = true := (dsh_eq M s e).mpr ⟨by omega, c1, c2⟩
      have hp' : post (nI (if eqF M B (s + 2) B.length 0 = true then (if e ≤ skip isBlk M (if dsh M (s + 2 + B.length) e = true then s + 2 + B.length + 2 else s + 2 + B.length) e then (if dsh M (s + 2 + B.length) e = true then 2 else 1) else 0) else 0)) f := by
        unfold mk at hp
        by_cases q : eqF M B (s + 2) B.length 0 = true
        · rw [if_pos ⟨hd, by omega, q⟩] at hp
          rw [if_pos q]; exact hp
        · rw [if_neg (fun w => q w.2.2)] at hp
          rw [if_neg q]; exact hp
      have loop : ∀ n k, k + n = B.length → post (nI (if eqF M B (s + 2) n k = true then (if e ≤ skip isBlk M (if dsh M (s + 2 + B.length) e = true then s + 2 + B.length + 2 else s + 2 + B.length) e then (if dsh M (s + 2 + B.length) e = true then 2 else 1) else 0) else 0)) f → w_Mo_marked_52 post (n + 1) (ad 57) (nI l) (nI s) (nI k) f := by
        intro n
        induction n with
        | zero =>
          intro k hk hq
          have e0 : eqF M B (s + 2) 0 k = true := rfl
          rw [if_pos e0] at hq
          refine ⟨nI B.length, v55, fun _ => ⟨nI B.length, v55, _, ⟨_, h.2.2.1, rfl⟩, _, _, a25, vl, ?_⟩, fun c => absurd (nI_le (by omega) (by omega)) c⟩
          rw [nI_cl l (by omega), e25, show (2 : Int32) = nI 2 from rfl, nI_add, nI_add, show s + (2 + B.length) = s + 2 + B.length by omega, nI_1, nI_leI (by omega) (by omega)]
          generalize hg : s + 2 + B.length = g at hq ⊢
          have fno : dsh M g e = false → w_Mo_marked_136 post (ad 57) (nI l) (nI g) f := by
            intro hd0
            rw [hd0] at hq
            refine ⟨fun _ => ⟨(e - g) + 1, ?_⟩, fun w => absurd rfl w⟩
            rw [Int32.add_zero]
            exact f150 false (e - g) g rfl (by omega) hq
          refine ⟨fun c3 => fno ?_, fun c3 => ⟨_, ⟨_, h.2.2.1, rfl⟩, _, _, a20, vp_in_nI (by show g < 1500; omega) (by decide), ?_⟩⟩
          · rw [← Bool.not_eq_true, dsh_eq]; omega
          · rw [nI_cl g (by omega), hM.1 g (by omega), ch45]
            refine ⟨fun c4 => fno (by rw [← Bool.not_eq_true, dsh_eq]; exact fun w => c4 w.2.1), fun c4 => ⟨_, ⟨_, h.2.2.1, rfl⟩, _, _, a20, vp_in_nI (by show g + 1 < 1500; omega) (by decide), ?_⟩⟩
            rw [nI_cl (g + 1) (by omega), hM.1 (g + 1) (by omega), ch45]
            refine ⟨fun c5 => fno (by rw [← Bool.not_eq_true, dsh_eq]; exact fun w => c5 w.2.2), fun c5 => ?_⟩
            have hd1 : dsh M g e = true := (dsh_eq M g e).mpr ⟨by omega, c4, c5⟩
            rw [hd1] at hq
            refine ⟨fun w => absurd w (by decide), fun _ => ⟨(e - (g + 2)) + 1, ?_⟩⟩
            rw [show (2 : Int32) = nI 2 from rfl, nI_add]
            exact f150 true (e - (g + 2)) (g + 2) rfl (by omega) hq
        | succ n ih =>
          intro k hk hq
          rw [eqF_eq] at hq
          refine ⟨nI B.length, v55, fun c3 => absurd c3 (by rw [nI_leI (by omega) (by omega)]; omega), fun _ => ⟨_, ⟨_, h.2.2.1, rfl⟩, _, _, a20, ?_, _, ⟨_, h.2.2.1, rfl⟩, _, _, h.ai 54 (t := 3) rfl (by decide) (by decide), vp_in_nI (by show k < 1500; omega) (by decide), ?_⟩⟩
          · rw [show (2 : Int32) = nI 2 from rfl, nI_add, nI_add]
            exact vp_in_nI (by show s + 2 + k < 1500; omega) (by decide)
          · rw [show (2 : Int32) = nI 2 from rfl, nI_add, nI_add, nI_cl (s + 2 + k) (by omega), nI_cl k (by omega), hM.1 (s + 2 + k) (by omega), hB.1 k (by omega), sb_eq (bM _) (hB.2.2.2 _)]
            refine ⟨fun c3 => ?_, fun c3 => ?_⟩
            · rw [if_pos c3] at hq
              rw [nI_1]
              exact ih (k + 1) (by omega) hq
            · rw [if_neg c3, if_neg (by decide)] at hq
              exact hq
      exact loop B.length 0 (by omega) hp'
end YMa
