/-! findTexts -/
def hmF (M : List Nat) (K : List (Nat × Nat)) (R : List eT) (m : Nat) : Nat → Bool := fun x => decide (m ≤ x ∧ x < R.length) && aM M K (R.getD x t0)
def orS (R : List eT) (s : Nat → Nat → Bool) (e : Nat) : Nat → Nat → Nat → Bool
  | 0, _ => fun _ => false
  | n + 1, c => fun x => (if pr R c = e + 1 then s c x else false) || orS R s e n (c + 1) x
def nwS (M : List Nat) (K : List (Nat × Nat)) (R : List eT) (s : Nat → Nat → Bool) (e : Nat) : Nat → Bool := if tK M K (R.getD e t0) = 1 ∧ aA M K (R.getD e t0) = true then oS s (pick R (hmF M K R e) s e) else fun x => (aO M K (R.getD e t0) && decide (x = e)) || orS R s e (R.length - (e + 1)) (e + 1) x
def fdR (M : List Nat) (K : List (Nat × Nat)) (R : List eT) : Nat → (Nat → Nat → Bool) → Nat → Nat → Bool
  | 0, s => s
  | m + 1, s => fdR M K R m (va_up s m (nwS M K R s m))
/-- as yK, but the longs may have changed -/
def yKL (as ss : List Nat) (y y' : yS) : Prop := (∀ k, k ∉ as → y'.1 k = y.1 k) ∧ (∀ k, k ∉ ss → y'.2.2.1 k = y.2.2.1 k)
theorem yKL.of {as ss : List Nat} {y y' : yS} (h : yK as ss y y') : yKL as ss y y' := ⟨h.1, h.2.2.1⟩
theorem yKL.trans {as ss : List Nat} {y y' y'' : yS} (h : yKL as ss y y') (h' : yKL as ss y' y'') : yKL as ss y y'' :=
  ⟨fun k hk => (h'.1 k hk).trans (h.1 k hk), fun k hk => (h'.2 k hk).trans (h.2 k hk)⟩
theorem yKL.K {as ss : List Nat} {y y' : yS} (h : yKL as ss y y') : yK as ss y (y'.1, y.2.1, y'.2.2.1, y.2.2.2) := ⟨h.1, rfl, h.2, rfl⟩
theorem yC.kl {y y' : yS} {M : List Nat} {K : List (Nat × Nat)} {as ss : List Nat} (h : yC y M K) (hk : yKL as ss y y') (h1 : ∀ k, k < 26 → k ∉ as) (h2 : ∀ k, k < 26 → k ∉ ss) : yC y' M K := by
  have := h.k hk.K h1 h2
  exact this
theorem yEn.kl {y y' : yS} {M : List Nat} {K : List (Nat × Nat)} {R : List eT} {lost : Nat} {as ss : List Nat} (h : yEn y M K R lost) (hk : yKL as ss y y') (h1 : ∀ k, k < 35 → k ∉ as) (h2 : ∀ k, k < 28 → k ∉ ss) : yEn y' M K R lost := by
  refine ⟨by rw [hk.2 26 (h2 26 (by decide))]; exact h.1, by rw [hk.2 27 (h2 27 (by decide))]; exact h.2.1, h.2.2.1, fun i hi => ?_⟩
  rw [hk.1 28 (h1 28 (by decide)), hk.1 29 (h1 29 (by decide)), hk.1 30 (h1 30 (by decide)), hk.1 31 (h1 31 (by decide)), hk.1 32 (h1 32 (by decide)), hk.1 33 (h1 33 (by decide)), hk.1 34 (h1 34 (by decide))]
  exact h.2.2.2 i hi
theorem bt_ext {v : Int64} {S T : Nat → Bool} (h : bt v S) (e : ∀ x, S x = T x) : bt v T := by
  have : S = T := funext e
  rw [← this]; exact h
section YFt
variable {b : xhp} {ad : Nat → Nat} {M : List Nat} {K : List (Nat × Nat)} {R : List eT} {lost : Nat}
theorem hmF_step {m : Nat} (hm : m < R.length) (x : Nat) : (hmF M K R (m + 1) x || (aM M K (R.getD m t0) && decide (x = m))) = hmF M K R m x := by
  unfold hmF
  by_cases e : x = m
  · subst e
    rw [decide_eq_false (by omega), Bool.false_and, Bool.false_or, decide_eq_true rfl, Bool.and_true, decide_eq_true ⟨Nat.le_refl _, hm⟩, Bool.true_and]
  · rw [decide_eq_false e, Bool.and_false, Bool.or_false]
    congr 1
    by_cases c : m ≤ x ∧ x < R.length
    · rw [decide_eq_true c, decide_eq_true (by omega)]
    · rw [decide_eq_false c, decide_eq_false (by omega)]
/-- the children's sets come to it -/
theorem y_ft104 {post : xhp → Prop} {k12 : Nat → Int32 → xhp → Prop} {m : Nat} (hm : m < R.length) {s : Nat → Nat → Bool} {q : Bool} {y0 : yS} (hC0 : yC y0 M K) (hE0 : yEn y0 M K R lost) (hq : q = aA M K (R.getD m t0)) (ho : tK M K (R.getD m t0) = 1 → aO M K (R.getD m t0) = false) (hk12 : ∀ f' y', yM b f' ad y' → yKL [45, 50, 51, 52] [46, 47, 48, 49, 53] y0 y' → y'.2.2.2 = y0.2.2.2 → (∀ c, m < c → y'.2.1 c = y0.2.1 c) → bt (y'.2.1 m) (nwS M K R s m) → w_Mo_findTexts_171 post k12 (ad 57) (nI m) f') (hH : bt (y0.2.2.2 37) (hmF M K R m)) (hs : ∀ c, m < c → c < R.length → bt (y0.2.1 c) (s c)) : ∀ (n c : Nat) (T : Nat → Bool) (y : yS) (f : xhp), c + n = R.length → m < c → yM b f ad y → yKL [45, 50, 51, 52] [46, 47, 48, 49, 53] y0 y → y.2.2.2 = y0.2.2.2 → (∀ c, m < c → y.2.1 c = y0.2.1 c) → bt (y.2.1 m) T → (∀ x, ((aO M K (R.getD m t0) && decide (x = m)) || orS R s m (R.length - (m + 1)) (m + 1) x) = (T x || orS R s m n c x)) → w_Mo_findTexts_104 post k12 (n + 1) (ad 57) (nI m) (zb q) (nI c) f := by
  intro n
  have h60 := hE0.2.2.1
  induction n with
  | zero =>
    intro c T y f hc hmc h k0 el eh ht hT
    have hE := hE0.kl k0 (by decide) (by decide)
    obtain ⟨_, _, _, _, _, _, _, _, f34⟩ := hE.2.2.2 m hm
    have hk2 : tK M K (R.getD m t0) ≤ 2 := kdH_le _ _ _ _ _ _
    refine ⟨nI R.length, ⟨_, h.2.2.1, by rw [← hE.1]; rfl⟩, fun _ => ⟨_, ⟨_, h.2.2.1, rfl⟩, _, _, h.ai 34 (t := 0) rfl (by decide) (by decide), vp_in_nI (by show m < 60; omega) (by decide), ?_⟩, fun w => absurd (nI_le (by omega) (by omega)) w⟩
    rw [nI_cl m (by omega), f34, show (1 : Int32) = nI 1 from rfl, nI_eq (by omega) (by omega)]
    have plain : ¬ (tK M K (R.getD m t0) = 1 ∧ aA M K (R.getD m t0) = true) → w_Mo_findTexts_171 post k12 (ad 57) (nI m) f := by
      intro w
      refine hk12 f y h k0 el eh (bt_ext ht (fun x => ?_))
      unfold nwS
      rw [if_neg w, hT x]
      show T x = (T x || false)
      rw [Bool.or_false]
    refine ⟨fun w => plain (fun v => w v.1), fun w => ⟨fun w1 => plain (fun v => ?_), fun w1 => ⟨_, ⟨_, h.2.2.1, rfl⟩, h.O, ?_⟩⟩⟩
    · rw [zb_0, hq] at w1; rw [w1] at v; cases v.2
    · rw [zb_n0, hq] at w1
      refine y_alternative h hE hm (H := hmF M K R m) (s := s) (by rw [el]; exact hH) (fun c h1 h2 => by rw [eh c h1]; exact hs c h1 h2) (fun v hv => ?_)
      have := m_wL h (j := m) (by omega) (v := v) rfl (Q := fun f10 => w_Mo_findTexts_171 post k12 (ad 57) (nI m) f10) (fun f10 h10 => ?_)
      · rw [nI_cl m (by omega)] at this; exact this
      · refine hk12 f10 _ h10 ⟨k0.1, k0.2⟩ el (fun c hc => ?_) ?_
        · dsimp only
          rw [zup_ne _ _ (by omega)]; exact eh c hc
        · dsimp only
          rw [zup_self]
          unfold nwS
          rw [if_pos ⟨w, w1⟩]; exact hv
  | succ n ih =>
    intro c T y f hc hmc h k0 el eh ht hT
    have hE := hE0.kl k0 (by decide) (by decide)
    have hcl : c < R.length := by omega
    obtain ⟨ok, _, _, _, _, _, f32, _⟩ := hE.2.2.2 c hcl
    have o1 := ok.1
    have vm : vp_in (nI m) 60 := vp_in_nI (by omega) (by decide)
    have vc : vp_in (nI c) 60 := vp_in_nI (by omega) (by decide)
    have e1 : ∀ x, orS R s m (n + 1) c x = ((if pr R c = m + 1 then s c x else false) || orS R s m n (c + 1) x) := fun _ => rfl
    refine ⟨nI R.length, ⟨_, h.2.2.1, by rw [← hE.1]; rfl⟩, fun w => absurd w (by rw [nI_leI (by omega) (by omega)]; omega), fun _ => ⟨_, ⟨_, h.2.2.1, rfl⟩, _, _, h.ai 32 (t := 0) rfl (by decide) (by decide), vc, ?_⟩⟩
    rw [nI_cl c (by omega), f32, iI_nI (by omega) (by omega)]
    refine ⟨fun w => ?_, fun w => ⟨_, ⟨_, h.2.2.1, rfl⟩, _, _, h.aL, vm, _, ⟨_, h.2.2.1, rfl⟩, _, _, h.aL, vc, ?_⟩⟩
    · show w_Mo_findTexts_104 post k12 (n + 1) (ad 57) (nI m) (zb q) (nI c + 1) f
      rw [nI_1]
      refine ih (c + 1) T y f (by omega) (by omega) h k0 el eh ht (fun x => ?_)
      rw [hT x, e1 x, if_neg (show ¬ pr R c = m + 1 from w), Bool.false_or]
    · rw [nI_cl m (by omega)]
      have := m_wL h (j := m) (by omega) (v := y.2.1 m ||| y.2.1 c) rfl (Q := fun f22 => w_Mo_findTexts_140 post k12 (w_Mo_findTexts_104 post k12 (n + 1)) (ad 57) (nI m) (zb q) (nI c) f22) (fun f22 h22 => ?_)
      · rw [nI_cl m (by omega)] at this; exact this
      · show w_Mo_findTexts_104 post k12 (n + 1) (ad 57) (nI m) (zb q) (nI c + 1) f22
        rw [nI_1]
        refine ih (c + 1) (fun x => T x || s c x) _ f22 (by omega) (by omega) h22 ⟨k0.1, k0.2⟩ el (fun c' hc' => ?_) ?_ (fun x => ?_)
        · dsimp only
          rw [zup_ne _ _ (by omega)]; exact eh c' hc'
        · dsimp only
          rw [zup_self]
          exact bt_or ht (by rw [eh c hmc]; exact hs c hmc hcl)
        · rw [hT x, e1 x, if_pos (show pr R c = m + 1 from w), Bool.or_assoc]
end YFt
