/-! findTexts, isHanging, isListed -/
section YFo
variable {b : xhp} {ad : Nat → Nat} {M : List Nat} {K : List (Nat × Nat)} {R : List eT} {lost : Nat}
theorem yKL.wL (as ss : List Nat) (y : yS) (g : Nat → Int64) : yKL as ss y (y.1, g, y.2.2) := ⟨fun _ _ => rfl, fun _ _ => rfl⟩
theorem yKL.wl (as ss : List Nat) (y : yS) (g : Nat → Int64) : yKL as ss y (y.1, y.2.1, y.2.2.1, g) := ⟨fun _ _ => rfl, fun _ _ => rfl⟩
theorem y_ft {post : xhp → Prop} {y0 : yS} (hC0 : yC y0 M K) (hE0 : yEn y0 M K R lost) : ∀ (m : Nat) (s : Nat → Nat → Bool) (y : yS) (f : xhp), m ≤ R.length → yM b f ad y → yKL [45, 50, 51, 52] [46, 47, 48, 49, 53] y0 y → bt (y.2.2.2 37) (hmF M K R m) → (∀ c, m ≤ c → c < R.length → bt (y.2.1 c) (s c)) → (R.length = 0 → s 0 = fun _ => false) → (∀ f' y', yM b f' ad y' → yKL [45, 50, 51, 52] [46, 47, 48, 49, 53] y0 y' → bt (y'.2.2.2 36) (fdR M K R m s 0) → post f') → w_Mo_findTexts_12 post (m + 1) (ad 57) (iI m) f := by
  have h60 := hE0.2.2.1
  intro m
  induction m with
  | zero =>
    intro s y f _ h k0 hH hs h0 hp
    have hE := hE0.kl k0 (by decide) (by decide)
    have fin : ∀ v, bt v (s 0) → w_Mo_findTexts_195 post v (ad 57) f := by
      intro v hv
      refine m_wl h (k := 36) (Or.inl rfl) (fun f2 h2 => hp f2 _ h2 (k0.trans (yKL.wl _ _ _ _)) ?_)
      dsimp only
      rw [zup_self]; exact hv
    refine ⟨fun _ => ⟨nI R.length, ⟨_, h.2.2.1, by rw [← hE.1]; rfl⟩, fun c => ⟨_, ⟨_, h.2.2.1, rfl⟩, _, _, h.aL, vp_in_nI (n := 0) (by decide) (by decide), fin _ ?_⟩, fun c => fin 0 ?_⟩, fun c => absurd (by decide) c⟩
    · rw [show (0 : Int32) = nI 0 from rfl, nI_eq (by omega) (by omega)] at c
      exact hs 0 (Nat.le_refl _) (by omega)
    · rw [show (0 : Int32) = nI 0 from rfl, nI_eq (by omega) (by omega)] at c
      rw [h0 c]; exact bt_0
  | succ m ih =>
    intro s y f hm h k0 hH hs _ hp
    have e0 : iI (m + 1) = nI m := rfl
    rw [e0]
    have hml : m < R.length := by omega
    have vm : vp_in (nI m) 60 := vp_in_nI (by omega) (by decide)
    have k99 : ∀ f' y', yM b f' ad y' → yKL [45, 50, 51, 52] [46, 47, 48, 49, 53] y0 y' → bt (y'.2.2.2 37) (hmF M K R m) → (∀ c, m < c → c < R.length → bt (y'.2.1 c) (s c)) → bt (y'.2.1 m) (fun x => aO M K (R.getD m t0) && decide (x = m)) → w_Mo_findTexts_99 post (w_Mo_findTexts_12 post (m + 1)) (ad 57) (nI m) (zb (aA M K (R.getD m t0))) f' := by
      intro f' y' h' k' hH' hs' ht'
      refine ⟨(R.length - (m + 1)) + 1, ?_⟩
      rw [nI_1]
      refine y_ft104 (y0 := y') hml (hC0.kl k' (by decide) (by decide)) (hE0.kl k' (by decide) (by decide)) rfl (fun w => by unfold aO; rw [decide_eq_false (by omega), Bool.false_and]) (fun f2 y2 h2 k2 l2 c2 t2 => ?_) hH' hs' (R.length - (m + 1)) (m + 1) _ y' f' (by omega) (by omega) h' ⟨fun _ _ => rfl, fun _ _ => rfl⟩ rfl (fun _ _ => rfl) ht' (fun x => rfl)
      show w_Mo_findTexts_12 post (m + 1) (ad 57) (nI m + (-1)) f2
      rw [iI_pred]
      refine ih (va_up s m (nwS M K R s m)) y2 f2 (by omega) h2 (k'.trans k2) (by rw [l2]; exact hH') (fun c hc1 hc2 => ?_) (fun w => by omega) hp
      by_cases q : c = m
      · subst q; rw [zup_self]; exact t2
      · rw [zup_ne _ _ q, c2 c (by omega)]; exact hs' c (by omega) hc2
    have k51 : ∀ f' y', yM b f' ad y' → yKL [45, 50, 51, 52] [46, 47, 48, 49, 53] y0 y' → yGt y' (typ M K (R.getD m t0).2.2.1 (tH M K (R.getD m t0)) (R.getD m t0).2.2.2.2) → bt (y'.2.2.2 37) (hmF M K R m) → (∀ c, m < c → c < R.length → bt (y'.2.1 c) (s c)) → bt (y'.2.1 m) (fun _ => false) → w_Mo_findTexts_51 post (w_Mo_findTexts_12 post (m + 1)) (ad 57) (nI m) f' := by
      intro f' y' h' k' g' hH' hs' ht'
      have hC' := hC0.kl k' (by decide) (by decide)
      have hE' := hE0.kl k' (by decide) (by decide)
      obtain ⟨_, _, _, _, _, _, _, _, f34⟩ := hE'.2.2.2 m hml
      have hk2 : tK M K (R.getD m t0) ≤ 2 := kdH_le _ _ _ _ _ _
      have no : aO M K (R.getD m t0) = false → w_Mo_findTexts_99 post (w_Mo_findTexts_12 post (m + 1)) (ad 57) (nI m) (zb (aA M K (R.getD m t0))) f' := by
        intro w
        refine k99 f' y' h' k' hH' hs' (bt_ext ht' (fun x => ?_))
        rw [w, Bool.false_and]
      refine ⟨_, ⟨_, h'.2.2.1, rfl⟩, h'.O, y_begins h' hC'.2.2.2.2 g' (lowP_typ _ _ _ _ _) (k := 8) (by decide) ⟨_, ⟨_, h'.2.2.1, rfl⟩, h'.O, y_isGot h' hC'.2.2.2.2 g' (lowP_typ _ _ _ _ _) (k := 11) (by decide) ⟨_, ⟨_, h'.2.2.1, rfl⟩, _, _, h'.ai 34 (t := 0) rfl (by decide) (by decide), vm, ?_⟩⟩⟩
      rw [nI_cl m (by omega), f34, show (0 : Int32) = nI 0 from rfl, nI_eq (by omega) (by omega), show nI 0 = (0 : Int32) from rfl]
      have ex : pfx (typ M K (R.getD m t0).2.2.1 (tH M K (R.getD m t0)) (R.getD m t0).2.2.2.2) (xbN (ywi 8)) = aX M K (R.getD m t0) := rfl
      have ea : isW (typ M K (R.getD m t0).2.2.1 (tH M K (R.getD m t0)) (R.getD m t0).2.2.2.2) (xbN (ywi 11)) = aA M K (R.getD m t0) := rfl
      rw [ex, ea]
      refine ⟨fun c => no ?_, fun c => ⟨fun c1 => no ?_, fun c1 => ⟨h'.O, y_isHung h' hC' (hE'.yT hml) (fun f2 y2 h2 k2 => ⟨fun c2 => ?_, fun c2 => ⟨_, ⟨_, h2.2.2.1, rfl⟩, ?_⟩⟩)⟩⟩⟩
      · unfold aO; rw [decide_eq_false c, Bool.false_and]
      · rw [zb_0] at c1; unfold aO; rw [c1, Bool.false_and, Bool.and_false]
      · rw [zb_n0] at c2
        have w : aO M K (R.getD m t0) = false := by
          unfold aO aG; rw [c2]; simp
        refine k99 f2 y2 h2 (k'.trans (yKL.of k2)) (by rw [k2.2.2.2]; exact hH') (fun c q1 q2 => by rw [k2.2.1]; exact hs' c q1 q2) (bt_ext (by rw [k2.2.1]; exact ht') (fun x => ?_))
        rw [w, Bool.false_and]
      · rw [zb_0] at c2
        rw [zb_n0] at c1
        have w : aO M K (R.getD m t0) = true := by
          unfold aO aG; rw [c2, c1, decide_eq_true c]; rfl
        have hw := m_wL h2 (j := m) (by omega) (v := 1 <<< (Int32.toInt64 (nI m) &&& 63)) rfl (Q := fun f15 => w_Mo_findTexts_99 post (w_Mo_findTexts_12 post (m + 1)) (ad 57) (nI m) (zb (aA M K (R.getD m t0))) f15) (fun f15 h15 => ?_)
        rw [nI_cl m (by omega)] at hw
        exact hw
        refine k99 f15 _ h15 ((k'.trans (yKL.of k2)).trans (yKL.wL _ _ _ _)) (by dsimp only; rw [k2.2.2.2]; exact hH') (fun c q1 q2 => by dsimp only; rw [zup_ne _ _ (by omega), k2.2.1]; exact hs' c q1 q2) ?_
        dsimp only
        rw [zup_self]
        refine bt_ext (bt_sh (i := m) (by omega)) (fun x => ?_)
        rw [w, Bool.true_and]
    refine ⟨fun c => absurd c (nI_pos (by omega)), fun _ => ⟨_, ⟨_, h.2.2.1, rfl⟩, m_wL h (j := m) (by omega) rfl (fun f8 h8 => ?_)⟩⟩
    obtain ⟨y8, ey8⟩ : ∃ y8 : yS, y8 = (y.1, va_up y.2.1 m 0, y.2.2) := ⟨_, rfl⟩
    rw [← ey8] at h8
    have k8 : yKL [45, 50, 51, 52] [46, 47, 48, 49, 53] y0 y8 := k0.trans (by rw [ey8]; exact yKL.wL _ _ _ _)
    have l8 : y8.2.2.2 = y.2.2.2 := by rw [ey8]
    have t8 : ∀ c, m < c → y8.2.1 c = y.2.1 c := fun c hc => by rw [ey8]; exact zup_ne _ _ (by omega)
    have t8m : y8.2.1 m = 0 := by rw [ey8]; exact zup_self _ _ _
    have hC8 := hC0.kl k8 (by decide) (by decide)
    have hE8 := hE0.kl k8 (by decide) (by decide)
    refine ⟨h8.O, y_type h8 hC8 (hE8.yT hml) (fun f9 y9 h9 k9 g9 => ⟨_, ⟨_, h9.2.2.1, rfl⟩, h9.O, y_isGot h9 (hC8.k k9 (by decide) (by decide)).2.2.2.2 g9 (lowP_typ _ _ _ _ _) (k := 7) (by decide) ?_⟩)⟩
    have em : isW (typ M K (R.getD m t0).2.2.1 (tH M K (R.getD m t0)) (R.getD m t0).2.2.2.2) (xbN (ywi 7)) = aM M K (R.getD m t0) := rfl
    rw [em]
    have hH9 : bt (y9.2.2.2 37) (hmF M K R (m + 1)) := by rw [k9.2.2.2, l8]; exact hH
    have hs9 : ∀ c, m < c → c < R.length → bt (y9.2.1 c) (s c) := fun c q1 q2 => by rw [k9.2.1, t8 c q1]; exact hs c (by omega) q2
    have ht9 : bt (y9.2.1 m) (fun _ => false) := by rw [k9.2.1, t8m]; exact bt_0
    refine ⟨fun c => k51 f9 y9 h9 (k8.trans (yKL.of k9)) g9 (bt_ext hH9 (fun x => ?_)) hs9 ht9, fun c => ⟨_, ⟨_, h9.2.2.1, rfl⟩, m_wl h9 (k := 37) (Or.inr rfl) (fun f15 h15 => k51 f15 _ h15 ((k8.trans (yKL.of k9)).trans (yKL.wl _ _ _ _)) g9 ?_ hs9 ht9)⟩⟩
    · rw [zb_0] at c
      rw [← hmF_step hml, c, Bool.false_and, Bool.or_false]
    · rw [zb_n0] at c
      dsimp only
      rw [zup_self]
      refine bt_ext (bt_or hH9 (bt_sh (i := m) (by omega))) (fun x => ?_)
      rw [← hmF_step hml, c, Bool.true_and]
/-- the reference's shown set -/
def shS (M : List Nat) (K : List (Nat × Nat)) (R : List eT) : Nat → Bool := fdR M K R R.length (fun _ _ => false) 0
theorem y_findTexts {y : yS} {f : xhp} (h : yM b f ad y) (hC : yC y M K) (hE : yEn y M K R lost) {post : xhp → Prop} (hp : ∀ f' y', yM b f' ad y' → yKL [45, 50, 51, 52] [46, 47, 48, 49, 53] y y' → bt (y'.2.2.2 36) (shS M K R) → post f') : w_Mo_findTexts post (ad 57) f := by
  refine m_wl h (k := 37) (Or.inr rfl) (fun f2 h2 => ⟨nI R.length, ⟨_, h2.2.2.1, by rw [← hE.1]; rfl⟩, R.length + 1, ?_⟩)
  have : nI R.length - 1 = iI R.length := by rw [← iI_pred, Int32.sub_eq_add_neg]
  rw [this]
  refine y_ft hC hE R.length (fun _ _ => false) _ f2 (Nat.le_refl _) h2 (yKL.wl _ _ _ _) ?_ (fun c h1 h2 => absurd h2 (by omega)) (fun _ => rfl) hp
  dsimp only
  rw [zup_self]
  refine bt_ext bt_0 (fun x => ?_)
  unfold hmF
  rw [decide_eq_false (by omega), Bool.false_and]
theorem y_isHanging {y : yS} {f : xhp} (h : yM b f ad y) (hC : yC y M K) (hE : yEn y M K R lost) {S : Nat → Bool} (hS : bt (y.2.2.2 36) S) {e : Nat} (he : e < R.length) (hO : S e = true → aO M K (R.getD e t0) = true) {post : Int32 → xhp → Prop} (hp : ∀ f' y', yM b f' ad y' → yK [45, 50, 51, 52] [46, 47, 48, 49, 53] y y' → post (zb (aH M K (R.getD e t0))) f') : w_Mo_isHanging post (ad 57) (nI e) f := by
  have h60 := hE.2.2.1
  have ve : vp_in (nI e) 60 := vp_in_nI (by omega) (by decide)
  obtain ⟨_, _, _, _, _, _, _, _, f34⟩ := hE.2.2.2 e he
  have hk2 : tK M K (R.getD e t0) ≤ 2 := kdH_le _ _ _ _ _ _
  have p0 : ∀ f' y', yM b f' ad y' → yK [45, 50, 51, 52] [46, 47, 48, 49, 53] y y' → aH M K (R.getD e t0) = false → post 0 f' := fun f' y' h' k' w => by have := hp f' y' h' k'; rw [w] at this; exact this
  have p1 : ∀ f' y', yM b f' ad y' → yK [45, 50, 51, 52] [46, 47, 48, 49, 53] y y' → aH M K (R.getD e t0) = true → post 1 f' := fun f' y' h' k' w => by have := hp f' y' h' k'; rw [w] at this; exact this
  refine ⟨_, ⟨_, h.2.2.1, rfl⟩, _, _, h.ai 34 (t := 0) rfl (by decide) (by decide), ve, ?_⟩
  rw [nI_cl e (by omega), f34, show (0 : Int32) = nI 0 from rfl, nI_eq (by omega) (by omega), show nI 0 = (0 : Int32) from rfl]
  refine ⟨fun c => ⟨Or.inl rfl, p0 f y h (yK.refl y) (by unfold aH; rw [decide_eq_false c, Bool.false_and])⟩, fun c => ⟨_, ⟨_, h.2.2.1, rfl⟩, fun c1 => ⟨h.O, y_type h hC (hE.yT he) (fun f5 y5 h5 k5 g5 => ⟨_, ⟨_, h5.2.2.1, rfl⟩, h5.O, y_begins h5 (hC.k k5 (by decide) (by decide)).2.2.2.2 g5 (lowP_typ _ _ _ _ _) (k := 8) (by decide) ⟨fun c2 => ⟨Or.inr rfl, p1 f5 y5 h5 k5 ?_⟩, fun c2 => ⟨h5.O, ?_⟩⟩⟩)⟩, fun c1 => ⟨Or.inl rfl, p0 f y h (yK.refl y) ?_⟩⟩⟩
  · rw [zb_0] at c2
    have : aX M K (R.getD e t0) = false := c2
    unfold aH; rw [this, decide_eq_true c]; simp
  · rw [zb_n0] at c2
    have c2 : aX M K (R.getD e t0) = true := c2
    refine y_isHung h5 (hC.k k5 (by decide) (by decide)) ((hE.yT he).k k5 (by decide)) (fun f9 y9 h9 k9 => ⟨fun c3 => ⟨Or.inl rfl, p0 f9 y9 h9 (k5.trans k9) ?_⟩, fun c3 => ⟨Or.inr rfl, p1 f9 y9 h9 (k5.trans k9) ?_⟩⟩)
    · rw [zb_0] at c3
      unfold aH aG; rw [c3, c2]; simp
    · rw [zb_n0] at c3
      unfold aH aG; rw [c3, decide_eq_true c]; rfl
  · rw [lg_cmp_eq, bt_test hS (by omega)] at c1
    have := hO c1
    unfold aO at this
    rw [Bool.and_eq_true, Bool.and_eq_true, Bool.not_eq_true'] at this
    unfold aH; rw [this.2.1, this.2.2]; simp
theorem y_isListed {y : yS} {f : xhp} (h : yM b f ad y) (hC : yC y M K) (hE : yEn y M K R lost) {S : Nat → Bool} (hS : bt (y.2.2.2 36) S) {e : Nat} (he : e < R.length) (hO : S e = true → aO M K (R.getD e t0) = true) {g : Int32} {post : Int32 → xhp → Prop} (hp : ∀ f' y', yM b f' ad y' → yK [45, 50, 51, 52] [46, 47, 48, 49, 53] y y' → post (zb (if g = 0 then S e else aH M K (R.getD e t0))) f') : w_Mo_isListed post (ad 57) (nI e) g f := by
  have h60 := hE.2.2.1
  have p0 := hp f y h (yK.refl y)
  refine ⟨fun c => ⟨_, ⟨_, h.2.2.1, rfl⟩, fun c1 => ?_, fun c1 => ?_⟩, fun c => ⟨h.O, y_isHanging h hC hE hS he hO (fun f' y' h' k' => ⟨zb_xz _, by have := hp f' y' h' k'; rw [if_neg c] at this; exact this⟩)⟩⟩
  · rw [lg_cmp_eq, bt_test hS (by omega), Bool.not_eq_true] at c1
    rw [if_pos c, c1] at p0
    exact ⟨Or.inl rfl, p0⟩
  · rw [lg_cmp_eq, bt_test hS (by omega)] at c1
    rw [if_pos c, c1] at p0
    exact ⟨Or.inr rfl, p0⟩
end YFo
