/-! chooseTexts -/
/-- has texts, has html, chosen (its number and 1) -/
abbrev cT : Type := (Nat → Bool) × (Nat → Bool) × (Nat → Nat)
def pr (R : List eT) (i : Nat) : Nat := (R.getD i t0).1
def chS (R : List eT) (al : Nat → Bool) (me : Nat) (s : cT) : cT :=
  if pr R me = 0 then s else if s.1 me = false then s
  else if al (pr R me - 1) = false then (va_up s.1 (pr R me - 1) true, va_up s.2.1 (pr R me - 1) (s.2.1 (pr R me - 1) || s.2.1 me), s.2.2)
  else if s.1 (pr R me - 1) = false ∨ (s.2.1 (pr R me - 1) = true ∧ s.2.1 me = false) then (va_up s.1 (pr R me - 1) true, va_up s.2.1 (pr R me - 1) (s.2.1 me), va_up s.2.2 (pr R me - 1) (me + 1))
  else s
def chR (R : List eT) (al : Nat → Bool) : Nat → cT → cT
  | 0, s => s
  | m + 1, s => chR R al m (chS R al m s)
def zC (n : Nat) (E : Nat → Nat → Int32) (s : cT) : Prop := ∀ i, i < n → E i 13 = zb (s.1 i) ∧ E i 14 = zb (s.2.1 i) ∧ E i 15 = iI (s.2.2 i)
theorem iI_pred (m : Nat) : nI m + (-1) = iI m := by
  cases m with
  | zero => decide
  | succ k =>
    show nI (k + 1) + (-1) = nI k
    rw [← nI_1 k, Int32.add_assoc]
    simp
section ZC
variable {b : xhp} {ad sk : Nat → Nat} {R : List eT} {al : Nat → Bool} {r : Nat → List Nat} {ls : List (Nat × Nat)} {lo : Nat}
theorem zC_va {n : Nat} {E : Nat → Nat → Int32} {w : Nat → Int32} {s s' : cT} {p : Nat} (h : zC n E s) (hs : ∀ i, i ≠ p → s'.1 i = s.1 i ∧ s'.2.1 i = s.2.1 i ∧ s'.2.2 i = s.2.2 i) (h13 : w 13 = zb (s'.1 p)) (h14 : w 14 = zb (s'.2.1 p)) (h15 : w 15 = iI (s'.2.2 p)) : zC n (va_up E p w) s' := by
  intro i hi
  by_cases e : i = p
  · subst e; rw [zup_self]; exact ⟨h13, h14, h15⟩
  · rw [zup_ne _ _ e]
    obtain ⟨a, c, d⟩ := hs i e
    rw [a, c, d]; exact h i hi
theorem m_choose_aux (h60 : R.length ≤ 60) (hpr : ∀ i, i < R.length → pr R i ≤ i) {post : xhp → Prop} : ∀ (m : Nat) (E : Nat → Nat → Int32) (f : xhp) (s : cT), m ≤ R.length → zMP b f ad (r, E, ls, R.length, lo) → (∀ i, i < R.length → E i 1 = iI (pr R i) ∧ E i 10 = zb (al i)) → zC R.length E s → (∀ f' E', zMP b f' ad (r, E', ls, R.length, lo) → (∀ i k, k ≠ 13 → k ≠ 14 → k ≠ 15 → E' i k = E i k) → zC R.length E' (chR R al m s) → post f') → w_Mp_chooseTexts_7 post (m + 1) (ad 0) (iI m) f := by
  intro m
  induction m with
  | zero =>
    intro E f s hm h hE hC hp
    exact ⟨fun _ => hp f E h (fun _ _ _ _ _ => rfl) hC, fun c => absurd (by decide) c⟩
  | succ m ih =>
    intro E f s hm h hE hC hp
    have e0 : iI (m + 1) = nI m := rfl
    rw [e0]
    have hm60 : m < 60 := by omega
    refine ⟨fun c => absurd c (nI_pos (by omega)), fun _ => ⟨h.O0, m_findE h h60 ?_⟩⟩
    dsimp only
    rw [zfind_nI (by omega) (by omega)]
    refine ⟨fun c => (by cases c), fun a c => ?_⟩
    cases c
    obtain ⟨c13, c14, c15⟩ := hC m (by omega)
    refine ⟨iI (pr R m), h.eg hm60 (by decide) (hE m (by omega)).1, h.O0, m_findE h h60 ?_⟩
    dsimp only
    -- the next one
    have nx : ∀ f1 E1 s1, zMP b f1 ad (r, E1, ls, R.length, lo) → (∀ i k, k ≠ 13 → k ≠ 14 → k ≠ 15 → E1 i k = E i k) → zC R.length E1 s1 → s1 = chS R al m s → w_Mp_chooseTexts_122 post (w_Mp_chooseTexts_7 post (m + 1)) (ad 0) (nI m) f1 := by
      intro f1 E1 s1 h1 hk1 hC1 es
      show w_Mp_chooseTexts_7 post (m + 1) (ad 0) (nI m + (-1)) f1
      rw [iI_pred]
      refine ih E1 f1 s1 (by omega) h1 (fun i hi => ?_) hC1 (fun f' E' h' hk' hC' => hp f' E' h' (fun i k a1 a2 a3 => by rw [hk' i k a1 a2 a3, hk1 i k a1 a2 a3]) (by rw [es] at hC'; exact hC'))
      rw [hk1 i 1 (by decide) (by decide) (by decide), hk1 i 10 (by decide) (by decide) (by decide)]
      exact hE i hi
    by_cases q : pr R m = 0
    · rw [show iI (pr R m) = -1 by rw [q]; rfl, zfind_m1]
      exact ⟨fun _ => nx f E s h (fun _ _ _ _ _ => rfl) hC (by unfold chS; rw [if_pos q]), fun a c => (by cases c)⟩
    · have hq := hpr m (by omega)
      obtain ⟨p, ep⟩ : ∃ p, p = pr R m - 1 := ⟨_, rfl⟩
      have hpm : p < m := by omega
      rw [show iI (pr R m) = nI p by unfold iI; rw [if_neg q, ep], zfind_nI (by omega) (by omega)]
      refine ⟨fun c => (by cases c), fun a c => ?_⟩
      cases c
      have hp60 : p < 60 := by omega
      obtain ⟨p13, p14, p15⟩ := hC p (by omega)
      have es : chS R al m s = if s.1 m = false then s else if al p = false then (va_up s.1 p true, va_up s.2.1 p (s.2.1 p || s.2.1 m), s.2.2) else if s.1 p = false ∨ (s.2.1 p = true ∧ s.2.1 m = false) then (va_up s.1 p true, va_up s.2.1 p (s.2.1 m), va_up s.2.2 p (m + 1)) else s := by
        unfold chS; rw [if_neg q, ← ep]
      have kk : ∀ (w : Nat → Int32), (∀ k, k ≠ 13 → k ≠ 14 → k ≠ 15 → w k = E p k) → ∀ i k, k ≠ 13 → k ≠ 14 → k ≠ 15 → va_up E p w i k = E i k := by
        intro w hw i k a1 a2 a3
        by_cases e : i = p
        · subst e; rw [zup_self]; exact hw k a1 a2 a3
        · rw [zup_ne _ _ e]
      -- it takes this one's texts
      have t104 : s.1 m = true → al p = true → (s.1 p = false ∨ (s.2.1 p = true ∧ s.2.1 m = false)) → w_Mp_chooseTexts_104 post (w_Mp_chooseTexts_7 post (m + 1)) (ad 0) (nI m) (zen ad m) (zen ad p) f := by
        intro y1 y2 y3
        refine ⟨zb (s.2.1 m), h.eg hm60 (by decide) c14, zb_xz _, m_wr (h.e0 p) hp60 (by decide) (fun f1 h1 => ⟨Or.inr rfl, m_wr h1 hp60 (by decide) (fun f2 h2 => m_wr h2 hp60 (by decide) (fun f3 h3 => ?_))⟩)⟩
        refine nx f3 _ _ h3 (kk _ (fun k a1 a2 a3 => by rw [zup_ne _ _ a3, zup_ne _ _ a1, zup_ne _ _ a2])) (zC_va (s' := (va_up s.1 p true, va_up s.2.1 p (s.2.1 m), va_up s.2.2 p (m + 1))) hC (fun i hi => ⟨zup_ne _ _ hi, zup_ne _ _ hi, zup_ne _ _ hi⟩) ?_ ?_ ?_) ?_
        · rw [zup_ne _ _ (by decide), zup_self]; dsimp only; rw [zup_self]; rfl
        · rw [zup_ne _ _ (by decide), zup_ne _ _ (by decide), zup_self]; dsimp only; rw [zup_self]
        · rw [zup_self]; dsimp only; rw [zup_self]; rfl
        · rw [es, if_neg (by rw [y1]; decide), if_neg (by rw [y2]; decide), if_pos y3]
      have t72 : ∀ q, s.1 m = true → al p = false → q = (s.2.1 p || s.2.1 m) → w_Mp_chooseTexts_72 post (w_Mp_chooseTexts_7 post (m + 1)) (ad 0) (nI m) (zen ad p) (zb q) (zen ad p) f := by
        intro q y1 y2 y3
        refine ⟨zb_xz _, m_wr (h.e0 p) hp60 (by decide) (fun f1 h1 => ⟨Or.inr rfl, m_wr h1 hp60 (by decide) (fun f2 h2 => ?_)⟩)⟩
        refine nx f2 _ _ h2 (kk _ (fun k a1 a2 a3 => by rw [zup_ne _ _ a1, zup_ne _ _ a2])) (zC_va (s' := (va_up s.1 p true, va_up s.2.1 p (s.2.1 p || s.2.1 m), s.2.2)) hC (fun i hi => ⟨zup_ne _ _ hi, zup_ne _ _ hi, rfl⟩) ?_ ?_ ?_) ?_
        · rw [zup_self]; dsimp only; rw [zup_self]; rfl
        · rw [zup_ne _ _ (by decide), zup_self]; dsimp only; rw [zup_self, y3]
        · rw [zup_ne _ _ (by decide), zup_ne _ _ (by decide)]; exact p15
        · rw [es, if_neg (by rw [y1]; decide), if_pos y2]
      have st : (s.1 m = false ∨ (al p = true ∧ ¬ (s.1 p = false ∨ (s.2.1 p = true ∧ s.2.1 m = false)))) → w_Mp_chooseTexts_122 post (w_Mp_chooseTexts_7 post (m + 1)) (ad 0) (nI m) f := by
        intro y
        refine nx f E s h (fun _ _ _ _ _ => rfl) hC ?_
        rw [es]
        by_cases y1 : s.1 m = false
        · rw [if_pos y1]
        · rcases y with y | y
          · exact absurd y y1
          · rw [if_neg y1, if_neg (by rw [y.1]; decide), if_neg y.2]
      refine ⟨_, rfl, zb (s.1 m), h.eg hm60 (by decide) c13, fun x1 => ?_, fun x1 => ⟨zb (al p), h.eg hp60 (by decide) (hE p (by omega)).2, fun x2 => ⟨zb (s.1 p), h.eg hp60 (by decide) p13, fun x3 => ?_, fun x3 => ⟨zb (s.2.1 p), h.eg hp60 (by decide) p14, fun x4 => ?_, fun x4 => ⟨zb (s.2.1 m), h.eg hm60 (by decide) c14, fun x5 => ?_, fun x5 => ?_⟩⟩⟩, fun x2 => ⟨zb (s.2.1 p), h.eg hp60 (by decide) p14, fun x3 => ?_, fun x3 => ⟨zb (s.2.1 m), h.eg hm60 (by decide) c14, fun x4 => ?_, fun x4 => ?_⟩⟩⟩⟩
      · rw [zb_0] at x1; exact st (Or.inl x1)
      · rw [zb_n0] at x1 x2; rw [zb_0] at x3; exact t104 x1 x2 (Or.inl x3)
      · rw [zb_n0] at x1 x2 x3; rw [zb_0] at x4
        exact st (Or.inr ⟨x2, fun y => by rw [x3, x4] at y; simp at y⟩)
      · rw [zb_n0] at x1 x2 x3 x4 x5
        exact st (Or.inr ⟨x2, fun y => by rw [x3, x4, x5] at y; simp at y⟩)
      · rw [zb_n0] at x1 x2 x3 x4; rw [zb_0] at x5; exact t104 x1 x2 (Or.inr ⟨x4, x5⟩)
      · rw [zb_n0] at x1 x3; rw [zb_0] at x2
        exact t72 true x1 x2 (by rw [x3]; rfl)
      · rw [zb_n0] at x1; rw [zb_0] at x2 x3 x4
        exact t72 false x1 x2 (by rw [x3, x4]; rfl)
      · rw [zb_n0] at x1 x4; rw [zb_0] at x2 x3
        exact t72 true x1 x2 (by rw [x3, x4]; rfl)
theorem m_choose (h60 : R.length ≤ 60) (hpr : ∀ i, i < R.length → pr R i ≤ i) {post : xhp → Prop} {E : Nat → Nat → Int32} {f : xhp} {s : cT} (h : zMP b f ad (r, E, ls, R.length, lo)) (hE : ∀ i, i < R.length → E i 1 = iI (pr R i) ∧ E i 10 = zb (al i)) (hC : zC R.length E s) (hp : ∀ f' E', zMP b f' ad (r, E', ls, R.length, lo) → (∀ i k, k ≠ 13 → k ≠ 14 → k ≠ 15 → E' i k = E i k) → zC R.length E' (chR R al R.length s) → post f') : w_Mp_chooseTexts post (ad 0) f := by
  refine ⟨nI R.length, ⟨_, h.2.2.1, rfl⟩, R.length + 1, ?_⟩
  have : nI R.length - 1 = iI R.length := by rw [← iI_pred, Int32.sub_eq_add_neg]
  rw [this]
  exact m_choose_aux h60 hpr R.length E f s (Nat.le_refl _) h hE hC hp
end ZC
