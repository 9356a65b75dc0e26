/-! type, isHung, called, isMulti, isEnclosed -/
def yT (y : yS) (M : List Nat) (K : List (Nat × Nat)) (e fr h : Nat) (dg : Bool) : Prop :=
  e < 60 ∧ y.1 28 e = nI fr ∧ y.1 30 e = nI h ∧ hdP M K fr h ∧ ((y.1 32 e = -1 ∧ dg = false) ∨ ∃ p fr' h' kp, p < 60 ∧ y.1 32 e = nI p ∧ y.1 28 p = nI fr' ∧ y.1 30 p = nI h' ∧ hdP M K fr' h' ∧ kp ≤ 2 ∧ y.1 34 p = nI kp ∧ dg = (decide (kp = 1) && isW (itm (ctV M K fr' h')) (xbN 12)))
theorem yT.k {y y' : yS} {M : List Nat} {K : List (Nat × Nat)} {e fr h : Nat} {dg : Bool} {as ss : List Nat} (ht : yT y M K e fr h dg) (hk : yK as ss y y') (h1 : ∀ k, k < 35 → k ∉ as) : yT y' M K e fr h dg := by
  obtain ⟨t1, t2, t3, t4, t5⟩ := ht
  refine ⟨t1, by rw [hk.1 28 (h1 28 (by omega))]; exact t2, by rw [hk.1 30 (h1 30 (by omega))]; exact t3, t4, ?_⟩
  rw [hk.1 28 (h1 28 (by omega)), hk.1 30 (h1 30 (by omega)), hk.1 32 (h1 32 (by omega)), hk.1 34 (h1 34 (by omega))]
  exact t5
theorem par_nil (N : List Nat) : par [] N = none := by
  unfold par
  show parF [] N (0 + 1) _ = _
  rw [parF_eq, if_neg]
  show ¬ fnd 59 [] 0 0 + 1 ≤ 0
  omega
theorem lowP_typ (M : List Nat) (K : List (Nat × Nat)) (fr h : Nat) (dg : Bool) : lowP (typ M K fr h dg) := by
  unfold typ
  split
  · exact lowP_itm _
  · split
    · exact lowP_x (by decide)
    · exact lowP_x (by decide)
section YTy
variable {b : xhp} {ad : Nat → Nat} {M : List Nat} {K : List (Nat × Nat)} {y : yS} {f : xhp}
/-- arrays and fields that the looks change -/
theorem y_type (h : yM b f ad y) (hC : yC y M K) {e fr h_ : Nat} {dg : Bool} (hT : yT y M K e fr h_ dg) {post : xhp → Prop} (hp : ∀ f' y', yM b f' ad y' → yK [45, 50, 51, 52] [46, 47, 48, 49, 53] y y' → yGt y' (typ M K fr h_ dg) → post f') : w_Mo_type post (ad 57) (nI e) f := by
  have he := hT.1
  have ve : vp_in (nI e) 60 := vp_in_nI he (by decide)
  refine ⟨_, ⟨_, h.2.2.1, rfl⟩, h.O, y_firstItem h hC he hT.2.2.2.1 hT.2.1 hT.2.2.1 (k := 0) (by decide) (fun f2 y2 h2 k2 g2 => ⟨h2.O, y_isType h2 g2 ?_⟩)⟩
  have hC2 := hC.k k2 (by decide) (by decide)
  have hT2 := hT.k k2 (by decide)
  change yGt y2 (itm (ctV M K fr h_)) at g2
  have e0 : itm ((fieldV M K (xbN (ywi 0)) fr h_).getD []) = itm (ctV M K fr h_) := rfl
  rw [e0]
  have set : ∀ (r : Int32) (y3 : yS) (f3 : xhp), yM b f3 ad y3 → yK [45, 50, 51, 52] [46, 47, 48, 49, 53] y y3 → r = zb dg → isTy (itm (ctV M K fr h_)) = false → w_Mo_type_67 post (ad 57) r f3 := by
    intro r y3 f3 h3 k3 er hty
    subst er
    have hC3 := hC.k k3 (by decide) (by decide)
    refine ⟨fun c => ⟨_, ⟨_, h3.2.2.1, rfl⟩, h3.O, y_set h3 hC3.2.2.2.2 (k := 6) (by decide) (fun f' y' h' k' g' => hp f' y' h' (k3.trans (k'.mono (by decide) (by decide))) ?_)⟩, fun c => ⟨_, ⟨_, h3.2.2.1, rfl⟩, h3.O, y_set h3 hC3.2.2.2.2 (k := 12) (by decide) (fun f' y' h' k' g' => hp f' y' h' (k3.trans (k'.mono (by decide) (by decide))) ?_)⟩⟩
    · rw [zb_0] at c
      unfold typ
      rw [if_neg (by rw [hty]; decide), if_neg (by rw [c]; decide)]
      exact g'
    · rw [zb_n0] at c
      unfold typ
      rw [if_neg (by rw [hty]; decide), if_pos c]
      exact g'
  refine ⟨fun c => ⟨_, ⟨_, h2.2.2.1, rfl⟩, _, _, h2.ai 32 (t := 0) rfl (by decide) (by decide), ve, ?_⟩, fun c => ?_⟩
  · rw [zb_0] at c
    rw [nI_cl e (by omega)]
    rcases hT2.2.2.2.2 with ⟨q1, q2⟩ | ⟨p, fr', h', kp, p1, p2, p3, p4, p5, p6, p7, p8⟩
    · rw [q1]
      exact ⟨fun _ => set 0 y2 f2 h2 k2 (by rw [q2]; rfl) c, fun w => absurd rfl w⟩
    · rw [p2]
      have vp : vp_in (nI p) 60 := vp_in_nI p1 (by decide)
      refine ⟨fun w => absurd w (fun w => ?_), fun _ => ⟨_, ⟨_, h2.2.2.1, rfl⟩, _, ⟨_, h2.2.2.1, rfl⟩, _, _, h2.ai 32 (t := 0) rfl (by decide) (by decide), ve, _, _, h2.ai 34 (t := 0) rfl (by decide) (by decide), ?_, ?_⟩⟩
      · have := (oI_none (o := some p) (fun t ht => by cases ht; omega)).mp w
        cases this
      · rw [p2]; exact vp
      · rw [p2, nI_cl p (by omega), p7]
        have k1 : nI kp = (1 : Int32) ↔ kp = 1 := nI_eq (b := 1) (by omega) (by omega)
        rw [k1]
        refine ⟨fun c1 => set 0 y2 f2 h2 k2 (by rw [p8, decide_eq_false c1]; rfl) c, fun c1 => ⟨_, ⟨_, h2.2.2.1, rfl⟩, _, _, h2.ai 32 (t := 0) rfl (by decide) (by decide), ve, _, ⟨_, h2.2.2.1, rfl⟩, h2.O, ?_⟩⟩
        rw [p2]
        refine y_firstItem h2 hC2 p1 p5 p3 p4 (k := 0) (by decide) (fun f18 y18 h18 k18 g18 => ⟨_, ⟨_, h18.2.2.1, rfl⟩, h18.O, y_isGot h18 (hC2.k k18 (by decide) (by decide)).2.2.2.2 g18 (lowP_itm _) (k := 10) (by decide) ?_⟩)
        refine set _ y18 f18 h18 (k2.trans k18) ?_ c
        rw [p8, decide_eq_true c1, Bool.true_and]; rfl
  · rw [zb_n0] at c
    refine hp f2 y2 h2 k2 ?_
    unfold typ
    rw [if_pos c]; exact g2
theorem y_isHung (h : yM b f ad y) (hC : yC y M K) {e fr h_ : Nat} {dg : Bool} (hT : yT y M K e fr h_ dg) {post : Int32 → xhp → Prop} (hp : ∀ f' y', yM b f' ad y' → yK [45, 50, 51, 52] [46, 47, 48, 49, 53] y y' → post (zb (hgH M K fr h_)) f') : w_Mo_isHung post (ad 57) (nI e) f := by
  refine ⟨_, ⟨_, h.2.2.1, rfl⟩, h.O, y_firstItem h hC hT.1 hT.2.2.2.1 hT.2.1 hT.2.2.1 (k := 2) (by decide) (fun f2 y2 h2 k2 g2 => ⟨_, ⟨_, h2.2.2.1, rfl⟩, h2.O, y_isGot h2 (hC.k k2 (by decide) (by decide)).2.2.2.2 g2 (lowP_itm _) (k := 13) (by decide) ⟨zb_xz _, hp f2 y2 h2 k2⟩⟩)⟩
theorem y_called (h : yM b f ad y) (hC : yC y M K) {e fr h_ : Nat} {dg : Bool} (hT : yT y M K e fr h_ dg) {post : xhp → Prop} (hp : ∀ f' y', yM b f' ad y' → yK [45, 50, 51, 52] [46, 47, 48, 49, 53] y y' → yGt y' (nam M K fr h_) → post f') : w_Mo_called post (ad 57) (nI e) f := by
  have hfind : ∀ (k : Nat) (y1 : yS) (f1 : xhp) (post : Int32 → xhp → Prop), k < 17 → yM b f1 ad y1 → yK [45, 50, 51, 52] [46, 47, 48, 49, 53] y y1 → (∀ f' y', yM b f' ad y' → yK [45] [46] y1 y' → yV y' ((fieldV M K (xbN (ywi k)) fr h_).getD []) → post (zb (fieldV M K (xbN (ywi k)) fr h_).isSome) f') → w_Mo_find post (ad 57) (nI e) (ad k) (nI (yln k)) f1 := by
    intro k y1 f1 post hk h1 k1 hp1
    have hC1 := hC.k k1 (by decide) (by decide)
    have hT1 := hT.k k1 (by decide)
    rw [(ywi_lt k hk).2.1]
    exact y_find h1 hC1.1 hC1.2.1 hC1.2.2.1 hT.1 hT.2.2.2.1.1 hT.2.2.2.1.2.1 hT.2.2.2.1.2.2 hT1.2.1 hT1.2.2.1 (hC1.2.2.2.2.w hk) (by omega) hp1
  -- the second try
  have sec : ∀ (y1 : yS) (f1 : xhp), yM b f1 ad y1 → yK [45, 50, 51, 52] [46, 47, 48, 49, 53] y y1 → par (dspV M K fr h_) (xbN 4) = none → w_Mo_called_34 post (ad 57) (nI e) f1 := by
    intro y1 f1 h1 k1 hn
    have en : nam M K fr h_ = (par (ctV M K fr h_) (xbN 5)).getD [] := by unfold nam; rw [hn]
    rw [en] at hp
    refine ⟨h1.O, m_ws h1 rfl (by decide) (by decide) (by decide) (fun f2 h2 => ?_)⟩
    have k2 : yK [45, 50, 51, 52] [46, 47, 48, 49, 53] y1 (y1.1, y1.2.1, va_up y1.2.2.1 53 0, y1.2.2.2) := yK.ws y1 0 (by decide)
    have g2 : yGt (y1.1, y1.2.1, va_up y1.2.2.1 53 (0 : Int32), y1.2.2.2) [] := ⟨fun i hi => absurd hi (Nat.not_lt_zero _), by dsimp only; rw [zup_self]; rfl, Nat.zero_le _, zB.nil⟩
    refine ⟨_, ⟨_, h2.2.2.1, rfl⟩, _, ⟨_, h2.2.2.1, rfl⟩, _, _, _, h2.ai 0 (t := 0) rfl (by decide) (by decide), by decide, h2.O, hfind 0 _ f2 _ (by decide) h2 (k1.trans k2) (fun f3 y3 h3 k3 hV => ?_)⟩
    have k3' := (k1.trans k2).trans (k3.mono (as' := [45, 50, 51, 52]) (ss' := [46, 47, 48, 49, 53]) (by decide) (by decide))
    change yV y3 (ctV M K fr h_) at hV
    cases hs : fieldV M K (xbN (ywi 0)) fr h_ with
    | none =>
      have ect : ctV M K fr h_ = [] := by show (fieldV M K (xbN (ywi 0)) fr h_).getD [] = []; rw [hs]; rfl
      refine ⟨fun _ => hp f3 y3 h3 k3' ?_, fun w => absurd rfl w⟩
      rw [ect, par_nil]
      exact g2.k k3 (by decide) (by decide)
    | some V0 =>
      refine ⟨fun w => absurd w (by simp [zb]), fun _ => ⟨_, ⟨_, h3.2.2.1, rfl⟩, _, ⟨_, h3.2.2.1, rfl⟩, _, _, _, h3.ai 5 (t := 0) rfl (by decide) (by decide), by decide, h3.O, ?_⟩⟩
      have hC3 := hC.k k3' (by decide) (by decide)
      rw [(ywi_lt 5 (by decide)).2.1]
      refine y_parameterOf h3 hV (Or.inl (by decide)) (hC3.2.2.2.2.w (k := 5) (by decide)) (fun G hG f4 y4 h4 k4 g4 => ⟨fun _ => hp f4 y4 h4 (k3'.trans (k4.mono (by decide) (by decide))) ?_, fun w => absurd w (by decide)⟩) (fun hG f4 y4 h4 k4 g4 => ⟨fun w => absurd rfl w, fun _ => ⟨h4.O, m_ws h4 rfl (by decide) (by decide) (by decide) (fun f5 h5 => hp f5 _ h5 ((k3'.trans (k4.mono (by decide) (by decide))).trans (yK.ws y4 0 (by decide))) ?_)⟩⟩)
      · have : par (ctV M K fr h_) (xbN 5) = some G := hG
        rw [this]; exact g4
      · have : par (ctV M K fr h_) (xbN 5) = none := hG
        rw [this]
        exact ⟨fun i hi => absurd hi (Nat.not_lt_zero _), by dsimp only; rw [zup_self]; rfl, Nat.zero_le _, zB.nil⟩
  refine ⟨_, ⟨_, h.2.2.1, rfl⟩, _, ⟨_, h.2.2.1, rfl⟩, _, _, _, h.ai 2 (t := 0) rfl (by decide) (by decide), by decide, h.O, hfind 2 y f _ (by decide) h (yK.refl y) (fun f7 y7 h7 k7 hV => ?_)⟩
  have k7' := k7.mono (as' := [45, 50, 51, 52]) (ss' := [46, 47, 48, 49, 53]) (by decide) (by decide)
  change yV y7 (dspV M K fr h_) at hV
  cases hs : fieldV M K (xbN (ywi 2)) fr h_ with
  | none =>
    have ect : dspV M K fr h_ = [] := by show (fieldV M K (xbN (ywi 2)) fr h_).getD [] = []; rw [hs]; rfl
    exact ⟨fun _ => sec y7 f7 h7 k7' (by rw [ect]; exact par_nil _), fun w => absurd rfl w⟩
  | some V0 =>
    refine ⟨fun w => absurd w (by simp [zb]), fun _ => ⟨_, ⟨_, h7.2.2.1, rfl⟩, _, ⟨_, h7.2.2.1, rfl⟩, _, _, _, h7.ai 4 (t := 0) rfl (by decide) (by decide), by decide, h7.O, ?_⟩⟩
    have hC7 := hC.k k7' (by decide) (by decide)
    rw [(ywi_lt 4 (by decide)).2.1]
    refine y_parameterOf h7 hV (Or.inl (by decide)) (hC7.2.2.2.2.w (k := 4) (by decide)) (fun G hG f4 y4 h4 k4 g4 => ⟨fun w => absurd w (by decide), fun _ => hp f4 y4 h4 (k7'.trans (k4.mono (by decide) (by decide))) ?_⟩) (fun hG f4 y4 h4 k4 g4 => ⟨fun _ => sec y4 f4 h4 (k7'.trans (k4.mono (by decide) (by decide))) hG, fun w => absurd rfl w⟩)
    have : par (dspV M K fr h_) (xbN 4) = some G := hG
    unfold nam
    rw [this]; exact g4
end YTy
