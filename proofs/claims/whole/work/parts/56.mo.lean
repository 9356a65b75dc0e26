/-! isMulti, isEnclosed -/
def muH (M : List Nat) (K : List (Nat × Nat)) (fr h : Nat) (dg : Bool) : Bool := pfx (typ M K fr h dg) (xbN 10) && decide (1 ≤ (bnd M K fr h).length ∧ (bnd M K fr h).length ≤ 70)
def ecH (M : List Nat) (K : List (Nat × Nat)) (fr h : Nat) (dg : Bool) : Bool := isW (typ M K fr h dg) (xbN 6) && opn (cod M K fr h)
theorem kdH_eq (M : List Nat) (K : List (Nat × Nat)) (fr h dp : Nat) (dg : Bool) : kdH M K fr h dp dg = if dp < 8 then (if muH M K fr h dg = true then 1 else if ecH M K fr h dg = true then 2 else 0) else 0 := by
  unfold kdH muH ecH
  simp only [Bool.and_eq_true, decide_eq_true_eq]
section YMu
variable {b : xhp} {ad : Nat → Nat} {M : List Nat} {K : List (Nat × Nat)} {y : yS} {f : xhp}
theorem y_isMulti (h : yM b f ad y) (hC : yC y M K) {e fr h_ : Nat} {dg : Bool} (hT : yT y M K e fr h_ dg) {post : Int32 → xhp → Prop} (hp : ∀ f' y', yM b f' ad y' → yK [45, 50, 51, 52, 54] [46, 47, 48, 49, 53, 55] y y' → (muH M K fr h_ dg = true → yMk y' (bnd M K fr h_)) → post (zb (muH M K fr h_ dg)) f') : w_Mo_isMulti post (ad 57) (nI e) f := by
  refine ⟨h.O, y_type h hC hT (fun f1 y1 h1 k1 g1 => ⟨_, ⟨_, h1.2.2.1, rfl⟩, h1.O, y_begins h1 (hC.k k1 (by decide) (by decide)).2.2.2.2 g1 (lowP_typ _ _ _ _ _) (k := 9) (by decide) ?_⟩)⟩
  have hC1 := hC.k k1 (by decide) (by decide)
  have hT1 := hT.k k1 (by decide)
  have k1' := k1.mono (as' := [45, 50, 51, 52, 54]) (ss' := [46, 47, 48, 49, 53, 55]) (by decide) (by decide)
  have e9 : xbN (ywi 9) = xbN 10 := rfl
  rw [e9]
  have no : ∀ (y2 : yS) (f2 : xhp), yM b f2 ad y2 → yK [45, 50, 51, 52, 54] [46, 47, 48, 49, 53, 55] y y2 → muH M K fr h_ dg = false → xz 0 ∧ post 0 f2 := by
    intro y2 f2 h2 k2 hm
    have := hp f2 y2 h2 k2 (fun w => by rw [hm] at w; cases w)
    rw [hm] at this
    exact ⟨Or.inl rfl, this⟩
  refine ⟨fun c => no y1 f1 h1 k1' ?_, fun c => ⟨_, ⟨_, h1.2.2.1, rfl⟩, _, ⟨_, h1.2.2.1, rfl⟩, _, _, _, h1.ai 0 (t := 0) rfl (by decide) (by decide), by decide, h1.O, ?_⟩⟩
  · rw [zb_0] at c
    unfold muH; rw [c, Bool.false_and]
  · rw [zb_n0] at c
    rw [(ywi_lt 0 (by decide)).2.1]
    refine y_find h1 hC1.1 hC1.2.1 hC1.2.2.1 hT.1 hT.2.2.2.1.1 hT.2.2.2.1.2.1 hT.2.2.2.1.2.2 hT1.2.1 hT1.2.2.1 (hC1.2.2.2.2.w (k := 0) (by decide)) (by decide) (fun f3 y3 h3 k3 hV => ?_)
    have k3' := k1'.trans (k3.mono (as' := [45, 50, 51, 52, 54]) (ss' := [46, 47, 48, 49, 53, 55]) (by decide) (by decide))
    change yV y3 (ctV M K fr h_) at hV
    cases hs : fieldV M K (xbN (ywi 0)) fr h_ with
    | none =>
      have ect : ctV M K fr h_ = [] := by show (fieldV M K (xbN (ywi 0)) fr h_).getD [] = []; rw [hs]; rfl
      refine ⟨fun _ => no y3 f3 h3 k3' ?_, fun w => absurd rfl w⟩
      unfold muH bnd
      rw [ect, par_nil]
      exact Bool.and_false _
    | some V0 =>
      refine ⟨fun w => absurd w (by simp [zb]), fun _ => ⟨_, ⟨_, h3.2.2.1, rfl⟩, _, ⟨_, h3.2.2.1, rfl⟩, _, _, _, h3.ai 3 (t := 0) rfl (by decide) (by decide), by decide, h3.O, ?_⟩⟩
      have hC3 := hC.k k3' (by decide) (by decide)
      rw [(ywi_lt 3 (by decide)).2.1]
      refine y_parameterOf h3 hV (Or.inl (by decide)) (hC3.2.2.2.2.w (k := 3) (by decide)) (fun G hG f4 y4 h4 k4 g4 => ⟨fun _ => ?_, fun w => absurd w (by decide)⟩) (fun hG f4 y4 h4 k4 g4 => ⟨fun w => absurd rfl w, fun _ => no y4 f4 h4 (k3'.trans (k4.mono (by decide) (by decide))) ?_⟩)
      · have eb : bnd M K fr h_ = G := by
          unfold bnd
          rw [show par (ctV M K fr h_) (xbN 3) = some G from hG]; rfl
        have k4' := k3'.trans (k4.mono (as' := [45, 50, 51, 52, 54]) (ss' := [46, 47, 48, 49, 53, 55]) (by decide) (by decide))
        have gl := g4.2.2.1
        have bG := g4.2.2.2
        have em : muH M K fr h_ dg = decide (1 ≤ G.length ∧ G.length ≤ 70) := by unfold muH; rw [c, Bool.true_and, eb]
        rw [em, eb] at hp
        refine ⟨nI G.length, ⟨_, h4.2.2.1, by rw [← g4.2.1]; rfl⟩, m_ws h4 rfl (by decide) (by decide) (by decide) (fun f5 h5 => ⟨G.length + 1, ?_⟩)⟩
        have k5 : yK [54] [55] y4 (y4.1, y4.2.1, va_up y4.2.2.1 55 (nI G.length), y4.2.2.2) := yK.ws y4 _ (by decide)
        have loop : ∀ (n i : Nat) (y6 : yS) (f6 : xhp), i + n = G.length → yM b f6 ad y6 → yK [54] [55] y4 y6 → y6.2.2.1 55 = nI G.length → (∀ j, j < i → y6.1 54 j = sb (G.getD j 0)) → w_Mo_isMulti_61 post (n + 1) (ad 57) (nI i) f6 := by
          intro n
          induction n with
          | zero =>
            intro i y6 f6 hi h6 k6 e55 hj
            have g6 := g4.k k6 (by decide) (by decide)
            have hk : yMk y6 G := ⟨fun j hj' => hj j (by omega), e55, gl, bG⟩
            have hq := hp f6 y6 h6 (k4'.trans (k6.mono (by decide) (by decide))) (fun _ => hk)
            have v55 : xV f6 (ad 57) 5 55 (.int (nI G.length)) := ⟨_, h6.2.2.1, by rw [← e55]; rfl⟩
            have a1 : nI G.length < (1 : Int32) ↔ G.length < 1 := nI_ltI (b := 1) (by omega) (by omega)
            have a2 : (70 : Int32) < nI G.length ↔ 70 < G.length := nI_ltI (a := 70) (by omega) (by omega)
            refine ⟨nI G.length, ⟨_, h6.2.2.1, by rw [← g6.2.1]; rfl⟩, fun _ => ⟨nI G.length, v55, fun c1 => ?_, fun c1 => ⟨nI G.length, v55, fun c2 => ?_, fun c2 => ?_⟩⟩, fun c1 => absurd (nI_le (by omega) (by omega)) c1⟩
            · rw [a1] at c1
              rw [decide_eq_false (by omega)] at hq; exact ⟨Or.inl rfl, hq⟩
            · rw [a2] at c2
              rw [decide_eq_false (by omega)] at hq; exact ⟨Or.inl rfl, hq⟩
            · rw [a1] at c1; rw [a2] at c2
              rw [decide_eq_true (by omega)] at hq; exact ⟨Or.inr rfl, hq⟩
          | succ n ih =>
            intro i y6 f6 hi h6 k6 e55 hj
            have g6 := g4.k k6 (by decide) (by decide)
            refine ⟨nI G.length, ⟨_, h6.2.2.1, by rw [← g6.2.1]; rfl⟩, fun c1 => absurd c1 (by rw [nI_leI (by omega) (by omega)]; omega), fun _ => ⟨_, ⟨_, h6.2.2.1, rfl⟩, _, ⟨_, h6.2.2.1, rfl⟩, _, _, h6.ai 52 (t := 3) rfl (by decide) (by decide), vp_in_nI (by show i < 1500; omega) (by decide), ?_⟩⟩
            rw [nI_cl i (by omega), g6.1 i (by omega)]
            have := m_wa h6 (k := 54) (t := 3) rfl (by decide) (by decide) (j := i) (sb_all _ (bG i)).1 (by show i < 1500; omega) (by omega) (Q := fun f10 => w_Mo_isMulti_61 post (n + 1) (ad 57) (nI i + 1) f10) (fun f10 h10 => ?_)
            · rw [nI_cl i (by omega)] at this
              exact this
            · rw [nI_1]
              refine ih (i + 1) _ f10 (by omega) h10 (k6.trans (yK.wa y6 _ (by decide))) e55 (fun j hj' => ?_)
              dsimp only
              rw [zup_self]
              by_cases q : j = i
              · subst q; rw [upd_self]
              · rw [upd_ne _ _ q]; exact hj j (by omega)
        exact loop G.length 0 _ f5 (by omega) h5 k5 (by dsimp only; rw [zup_self]) (fun j hj => absurd hj (Nat.not_lt_zero _))
      · unfold muH bnd
        rw [show par (ctV M K fr h_) (xbN 3) = none from hG]
        exact Bool.and_false _
theorem y_isEnclosed (h : yM b f ad y) (hC : yC y M K) {e fr h_ : Nat} {dg : Bool} (hT : yT y M K e fr h_ dg) {post : Int32 → xhp → Prop} (hp : ∀ f' y', yM b f' ad y' → yK [45, 50, 51, 52] [46, 47, 48, 49, 53] y y' → post (zb (ecH M K fr h_ dg)) f') : w_Mo_isEnclosed post (ad 57) (nI e) f := by
  refine ⟨h.O, y_type h hC hT (fun f1 y1 h1 k1 g1 => ⟨_, ⟨_, h1.2.2.1, rfl⟩, h1.O, y_isGot h1 (hC.k k1 (by decide) (by decide)).2.2.2.2 g1 (lowP_typ _ _ _ _ _) (k := 12) (by decide) ?_⟩)⟩
  have hC1 := hC.k k1 (by decide) (by decide)
  have hT1 := hT.k k1 (by decide)
  have e9 : xbN (ywi 12) = xbN 6 := rfl
  rw [e9]
  refine ⟨fun c => ⟨_, ⟨_, h1.2.2.1, rfl⟩, h1.O, y_firstItem h1 hC1 hT.1 hT.2.2.2.1 hT1.2.1 hT1.2.2.1 (k := 1) (by decide) (fun f6 y6 h6 k6 g6 => ?_)⟩, fun c => ?_⟩
  · rw [zb_n0] at c
    change yGt y6 (cod M K fr h_) at g6
    have hC6 := hC1.k k6 (by decide) (by decide)
    have gl := g6.2.2.1
    have hq := hp f6 y6 h6 (k1.trans k6)
    have em : ecH M K fr h_ dg = opn (cod M K fr h_) := by unfold ecH; rw [c, Bool.true_and]
    rw [em] at hq
    unfold opn at hq
    have e0 : nI (cod M K fr h_).length = (0 : Int32) ↔ (cod M K fr h_).length = 0 := nI_eq (b := 0) (by omega) (by omega)
    refine ⟨nI (cod M K fr h_).length, ⟨_, h6.2.2.1, by rw [← g6.2.1]; rfl⟩, fun c1 => ?_, fun c1 => ⟨_, ⟨_, h6.2.2.1, rfl⟩, h6.O, y_isGot h6 hC6.2.2.2.2 g6 (lowP_itm _) (k := 14) (by decide) ⟨fun c2 => ?_, fun c2 => ⟨_, ⟨_, h6.2.2.1, rfl⟩, h6.O, y_isGot h6 hC6.2.2.2.2 g6 (lowP_itm _) (k := 15) (by decide) ⟨fun c3 => ?_, fun c3 => ⟨_, ⟨_, h6.2.2.1, rfl⟩, h6.O, y_isGot h6 hC6.2.2.2.2 g6 (lowP_itm _) (k := 16) (by decide) ⟨fun c4 => ?_, fun c4 => ?_⟩⟩⟩⟩⟩⟩⟩
    · rw [e0] at c1
      rw [decide_eq_true c1, Bool.true_or] at hq; exact ⟨Or.inr rfl, hq⟩
    · rw [e0] at c1; rw [zb_n0] at c2
      rw [decide_eq_false c1, Bool.false_or, show isW (cod M K fr h_) (xbN 14) = true from c2, Bool.true_or] at hq; exact ⟨Or.inr rfl, hq⟩
    · rw [e0] at c1; rw [zb_0] at c2; rw [zb_n0] at c3
      rw [decide_eq_false c1, Bool.false_or, show isW (cod M K fr h_) (xbN 14) = false from c2, Bool.false_or, show isW (cod M K fr h_) (xbN 15) = true from c3, Bool.true_or] at hq; exact ⟨Or.inr rfl, hq⟩
    · rw [e0] at c1; rw [zb_0] at c2 c3 c4
      rw [decide_eq_false c1, Bool.false_or, show isW (cod M K fr h_) (xbN 14) = false from c2, Bool.false_or, show isW (cod M K fr h_) (xbN 15) = false from c3, Bool.false_or, show isW (cod M K fr h_) (xbN 16) = false from c4] at hq; exact ⟨Or.inl rfl, hq⟩
    · rw [e0] at c1; rw [zb_0] at c2 c3; rw [zb_n0] at c4
      rw [decide_eq_false c1, Bool.false_or, show isW (cod M K fr h_) (xbN 14) = false from c2, Bool.false_or, show isW (cod M K fr h_) (xbN 15) = false from c3, Bool.false_or, show isW (cod M K fr h_) (xbN 16) = true from c4] at hq; exact ⟨Or.inr rfl, hq⟩
  · rw [zb_0] at c
    have hq := hp f1 y1 h1 k1
    rw [show ecH M K fr h_ dg = false by unfold ecH; rw [c, Bool.false_and]] at hq
    exact ⟨Or.inl rfl, hq⟩
end YMu
