/-! firstItem, isGot, begins, isType, set -/
def ywi (k : Nat) : Nat := [0, 1, 2, 3, 4, 5, 7, 9, 8, 10, 12, 11, 6, 13, 14, 15, 16].getD k 0
theorem ywi_lt : ∀ k, k < 17 → ywi k < 17 ∧ yln k = (xbN (ywi k)).length ∧ ytg k = 0 := by decide +kernel
theorem xbN_low : ∀ i, i < 17 → ∀ j, j < (xbN i).length → (xbN i).getD j 0 < 128 ∧ low ((xbN i).getD j 0) = (xbN i).getD j 0 := by decide +kernel
/-- the constant words -/
def yCst (y : yS) : Prop := ∀ k, k < 17 → ∀ i, i < yln k → y.1 k i = nI ((xbN (ywi k)).getD i 0)
theorem yCst.w {y : yS} (h : yCst y) {k : Nat} (hk : k < 17) : yWd y k (xbN (ywi k)) := by
  obtain ⟨h1, h2, h3⟩ := ywi_lt k hk
  refine ⟨h3, by omega, by omega, xbN_zB h1, by have := (xbN_all _ h1).2.1; omega, fun i hi => ?_⟩
  rw [h k hk i (by omega)]
  obtain ⟨q1, q2⟩ := xbN_low _ h1 i hi
  rw [q2, sb_nI _ q1]
theorem yCst.k {y y' : yS} {as ss : List Nat} (h : yCst y) (hk : yK as ss y y') (h1 : ∀ k, k < 17 → k ∉ as) : yCst y' := fun k h17 i hi => by rw [hk.1 k (h1 k h17)]; exact h k h17 i hi
def yC (y : yS) (M : List Nat) (K : List (Nat × Nat)) : Prop := yMl y M ∧ yLn y K ∧ zL M K ∧ zLe M K ∧ yCst y
theorem yC.k {y y' : yS} {M : List Nat} {K : List (Nat × Nat)} {as ss : List Nat} (h : yC y M K) (hk : yK as ss y y') (h1 : ∀ k, k < 26 → k ∉ as) (h2 : ∀ k, k < 26 → k ∉ ss) : yC y' M K :=
  ⟨h.1.k hk (h1 20 (by decide)) (h2 21 (by decide)), h.2.1.k hk (h1 24 (by decide)) (h1 25 (by decide)) (h2 23 (by decide)), h.2.2.1, h.2.2.2.1, h.2.2.2.2.k hk (fun k hk => h1 k (by omega))⟩
/-- HEADs: behind a first line each line begins a FIELD or goes on -/
def hdP (M : List Nat) (K : List (Nat × Nat)) (fr h : Nat) : Prop := fr ≤ h ∧ h ≤ K.length ∧ ∀ l, fr < l → l < h → colL M K l = none → blk M K l = true
theorem hdF_P {M : List Nat} {K : List (Nat × Nat)} {a e : Nat} : ∀ n i l, e - i = n → i ≤ l → l < hdF M K a e n i → (a < l ∧ blk M K l = true) ∨ colL M K l ≠ none := by
  intro n
  induction n with
  | zero => intro i l hn hi hl; have : hdF M K a e 0 i = e := rfl; omega
  | succ n ih =>
    intro i l hn hi hl
    have e1 : hdF M K a e (n + 1) i = if i < e then (if (a < i ∧ blk M K i = true) ∨ colL M K i ≠ none then hdF M K a e n (i + 1) else i) else e := rfl
    rw [e1, if_pos (by omega)] at hl
    by_cases c : (a < i ∧ blk M K i = true) ∨ colL M K i ≠ none
    · rw [if_pos c] at hl
      by_cases q : l = i
      · subst q; exact c
      · exact ih (i + 1) l (by omega) (by omega) hl
    · rw [if_neg c] at hl; omega
theorem hd_P {M : List Nat} {K : List (Nat × Nat)} {fr to_ : Nat} (h1 : fr ≤ to_) (h2 : to_ ≤ K.length) : hdP M K fr (hd M K fr to_) := by
  have := hdF_le (M := M) (K := K) (a := fr) (e := to_) (to_ - fr) fr h1
  refine ⟨this.1, Nat.le_trans this.2 h2, fun l hl1 hl2 hc => ?_⟩
  rcases hdF_P (to_ - fr) fr l rfl (by omega) hl2 with q | q
  · exact q.2
  · exact absurd hc q
def lowP (G : List Nat) : Prop := ∀ i, i < G.length → low (G.getD i 0) = G.getD i 0
theorem low_low (x : Nat) : low (low x) = low x := by
  unfold low
  repeat' split
  all_goals omega
theorem lowP_map (L : List Nat) : lowP (L.map low) := by
  intro i hi
  simp only [List.length_map] at hi
  rw [show (L.map low).getD i 0 = low (L.getD i 0) by simp [List.getD, hi]]
  exact low_low _
theorem lowP_itm (V : List Nat) : lowP (itm V) := lowP_map _
theorem lowP_x {i : Nat} (h : i < 17) : lowP (xbN i) := fun j hj => (xbN_low i h j hj).2
theorem hasNm_eq {G N : List Nat} (hG : lowP G) (hN : lowP N) (hl : N.length ≤ G.length) : ∀ n k, k + n = N.length → hasNmF G N 0 n k = eqF G N 0 n k := by
  intro n
  induction n with
  | zero => intro k _; rfl
  | succ n ih =>
    intro k hk
    show (if _ then _ else _) = (if _ then _ else _)
    rw [Nat.zero_add, hG k (by omega), hN k (by omega), ih (k + 1) (by omega)]
    by_cases q : G.getD k 0 = N.getD k 0
    · rw [if_pos ⟨by omega, q⟩, if_pos q]
    · rw [if_neg (fun w => q w.2), if_neg q]
theorem itm_nil : itm [] = [] := by simp [itm, trim, sub]
section YG
variable {b : xhp} {ad : Nat → Nat} {M : List Nat} {K : List (Nat × Nat)} {y : yS} {f : xhp} {G : List Nat}
theorem y_isGot (h : yM b f ad y) (hC : yCst y) (hG : yGt y G) (hGl : lowP G) {k : Nat} (hk : k < 17) {post : Int32 → xhp → Prop} (hp : post (zb (isW G (xbN (ywi k)))) f) : w_Mo_isGot post (ad 57) (ad k) f := by
  obtain ⟨w1, w2, w3⟩ := ywi_lt k hk
  refine ⟨_, ⟨_, h.2.2.1, rfl⟩, nI G.length, ⟨_, h.2.2.1, by rw [← hG.2.1]; rfl⟩, _, _, _, h.ai k w3 (by decide) (by omega), by decide, ?_⟩
  rw [w2]
  refine y_isWord h (ka := 52) rfl (by decide) hG.1 hG.2.2.2 hG.2.2.1 hG.2.2.1 (hC.w hk) (s := 0) (e := G.length) (Nat.zero_le _) (Nat.le_refl _) ⟨zb_xz _, ?_⟩
  have : (decide (G.length - 0 = (xbN (ywi k)).length) && hasNm G (xbN (ywi k)) 0) = isW G (xbN (ywi k)) := by
    unfold isW
    rw [Nat.sub_zero]
    by_cases q : G.length = (xbN (ywi k)).length
    · rw [decide_eq_true q, Bool.true_and, Bool.true_and]
      exact hasNm_eq hGl (lowP_x w1) (by omega) _ _ (by omega)
    · rw [decide_eq_false q, Bool.false_and, Bool.false_and]
  rw [this]; exact hp
theorem y_begins (h : yM b f ad y) (hC : yCst y) (hG : yGt y G) (hGl : lowP G) {k : Nat} (hk : k < 17) {post : Int32 → xhp → Prop} (hp : post (zb (pfx G (xbN (ywi k)))) f) : w_Mo_begins post (ad 57) (ad k) f := by
  obtain ⟨w1, w2, w3⟩ := ywi_lt k hk
  have hN := (xbN_all _ w1).2.1
  have hg := hG.2.2.1
  have ak := h.ai k w3 (by decide) (by omega)
  unfold pfx at hp
  refine ⟨nI G.length, ⟨_, h.2.2.1, by rw [← hG.2.1]; rfl⟩, _, _, _, ak, by decide, ?_⟩
  rw [w2]
  refine ⟨fun c => ?_, fun c => ⟨_, ⟨_, h.2.2.1, rfl⟩, _, _, _, ak, by decide, _, _, _, ak, by decide, ?_⟩⟩
  · rw [nI_ltI (by omega) (by omega)] at c
    rw [decide_eq_false (by omega), Bool.false_and] at hp
    exact ⟨Or.inl rfl, hp⟩
  · rw [nI_ltI (by omega) (by omega)] at c
    rw [decide_eq_true (by omega), Bool.true_and] at hp
    rw [w2]
    refine y_isWord h (ka := 52) rfl (by decide) hG.1 hG.2.2.2 hG.2.2.1 hG.2.2.1 (hC.w hk) (s := 0) (e := (xbN (ywi k)).length) (Nat.zero_le _) (by omega) ?_
    rw [Nat.sub_zero, decide_eq_true rfl, Bool.true_and, show hasNm G (xbN (ywi k)) 0 = eqF G (xbN (ywi k)) 0 (xbN (ywi k)).length 0 from hasNm_eq hGl (lowP_x w1) (by omega) _ _ (by omega)]
    refine ⟨fun c1 => ?_, fun c1 => ?_⟩
    · rw [zb_0] at c1
      rw [c1] at hp; exact ⟨Or.inl rfl, hp⟩
    · rw [zb_n0] at c1
      rw [c1] at hp; exact ⟨Or.inr rfl, hp⟩
theorem y_isType (h : yM b f ad y) (hG : yGt y G) {post : Int32 → xhp → Prop} (hp : post (zb (isTy G)) f) : w_Mo_isType post (ad 57) f := by
  have hg := hG.2.2.1
  have bG := hG.2.2.2
  have a52 := h.ai 52 (t := 3) rfl (by decide) (by decide)
  have loop : ∀ n sl i, i + n = G.length → post (zb (tyF G n sl i)) f → w_Mo_isType_4 post (n + 1) (ad 57) (zb sl) (nI i) f := by
    intro n
    induction n with
    | zero =>
      intro sl i hi hq
      exact ⟨nI G.length, ⟨_, h.2.2.1, by rw [← hG.2.1]; rfl⟩, fun _ => ⟨zb_xz _, hq⟩, fun c => absurd (nI_le (by omega) (by omega)) c⟩
    | succ n ih =>
      intro sl i hi hq
      have e1 : tyF G (n + 1) sl i = if isBlk (G.getD i 0) = true then false else tyF G n (sl || (G.getD i 0 == 47 && decide (0 < i) && decide (i < G.length - 1))) (i + 1) := rfl
      rw [e1] at hq
      have nx : ∀ s, isBlk (G.getD i 0) = false → s = (sl || (G.getD i 0 == 47 && decide (0 < i) && decide (i < G.length - 1))) → w_Mo_isType_60 post (w_Mo_isType_4 post (n + 1)) (ad 57) (nI i) (zb s) f := by
        intro s hb es
        rw [if_neg (by rw [hb]; decide), ← es] at hq
        show w_Mo_isType_4 post (n + 1) (ad 57) (zb s) (nI i + 1) f
        rw [nI_1]
        exact ih s (i + 1) (by omega) hq
      refine ⟨nI G.length, ⟨_, h.2.2.1, by rw [← hG.2.1]; rfl⟩, fun c => absurd c (by rw [nI_leI (by omega) (by omega)]; omega), fun _ => ⟨_, ⟨_, h.2.2.1, rfl⟩, _, _, a52, vp_in_nI (by show i < 1500; omega) (by decide), ?_⟩⟩
      rw [nI_cl i (by omega), hG.1 i (by omega)]
      refine y_blank (bG i) ⟨fun c => ?_, fun c => ?_⟩
      · rw [zb_0] at c
        refine ⟨fun c1 => ?_, fun c1 => ⟨_, ⟨_, h.2.2.1, rfl⟩, _, _, a52, vp_in_nI (by show i < 1500; omega) (by decide), ?_⟩⟩
        · rw [zb_n0] at c1
          exact nx true c (by rw [c1]; rfl)
        · rw [zb_0] at c1
          rw [hG.1 i (by omega), (sb_ch _ (bG i)).2.2.2.2.2.2.2.1]
          refine ⟨fun c2 => ?_, fun c2 => ⟨fun c3 => ?_, fun c3 => ⟨nI G.length, ⟨_, h.2.2.1, by rw [← hG.2.1]; rfl⟩, ?_⟩⟩⟩
          · exact nx false c (by rw [c1, show (G.getD i 0 == 47) = false from beq_false_of_ne c2]; rfl)
          · rw [show (0 : Int32) = nI 0 from rfl, nI_leI (by omega) (by omega)] at c3
            exact nx false c (by rw [c1, decide_eq_false (by omega)]; simp)
          · rw [show (0 : Int32) = nI 0 from rfl, nI_leI (by omega) (by omega)] at c3
            rw [show (1 : Int32) = nI 1 from rfl, nI_sub' (by omega), nI_leI (by omega) (by omega)]
            refine ⟨fun c4 => ?_, fun c4 => ?_⟩
            · exact nx false c (by rw [c1, decide_eq_false (show ¬ i < G.length - 1 by omega)]; simp)
            · exact nx true c (by rw [c1, decide_eq_true (show i < G.length - 1 by omega), decide_eq_true (show 0 < i by omega)]; simp only [List.getD_eq_getElem?_getD] at c2; simp [c2])
      · rw [zb_n0] at c
        rw [if_pos c] at hq
        exact ⟨Or.inl rfl, hq⟩
  exact ⟨G.length + 1, loop G.length false 0 (by omega) hp⟩
theorem y_set (h : yM b f ad y) (hC : yCst y) {k : Nat} (hk : k < 17) {post : xhp → Prop} (hp : ∀ f' y', yM b f' ad y' → yK [52] [53] y y' → yGt y' (xbN (ywi k)) → post f') : w_Mo_set post (ad 57) (ad k) f := by
  obtain ⟨w1, w2, w3⟩ := ywi_lt k hk
  have hN := (xbN_all _ w1).2.1
  have bN := xbN_zB w1
  refine ⟨_, _, _, h.ai k w3 (by decide) (by omega), by decide, m_ws h rfl (by decide) (by decide) (by decide) (fun f6 h6 => ⟨(xbN (ywi k)).length + 1, ?_⟩)⟩
  rw [w2] at h6
  have k2 : yK [52] [53] y (y.1, y.2.1, va_up y.2.2.1 53 (nI (xbN (ywi k)).length), y.2.2.2) := yK.ws y _ (by decide)
  have loop : ∀ (n i : Nat) (y1 : yS) (f : xhp), i + n = (xbN (ywi k)).length → yM b f ad y1 → yK [52] [53] y y1 → y1.2.2.1 53 = nI (xbN (ywi k)).length → (∀ j, j < i → y1.1 52 j = sb ((xbN (ywi k)).getD j 0)) → w_Mo_set_8 post (n + 1) (ad 57) (ad k) (nI i) f := by
    intro n
    induction n with
    | zero =>
      intro i y1 f hi h1 k1 e53 hj
      refine ⟨_, _, _, h1.ai k w3 (by decide) (by omega), by decide, fun _ => hp f y1 h1 k1 ⟨fun j hj' => hj j (by omega), e53, by omega, bN⟩, fun c => absurd (nI_le (by omega) (by omega)) c⟩
    | succ n ih =>
      intro i y1 f hi h1 k1 e53 hj
      have hlow := xbN_low _ w1 i (by omega)
      refine ⟨_, _, _, h1.ai k w3 (by decide) (by omega), by decide, fun c => absurd c (by rw [w2, nI_leI (by omega) (by omega)]; omega), fun _ => ⟨_, ⟨_, h1.2.2.1, rfl⟩, _, _, h1.ai k w3 (by decide) (by omega), vp_in_nI (by omega) (by omega), ?_⟩⟩
      rw [nI_cl i (by omega)]
      have ev : vp_nar .byte ((y1.1 k i).toInt8.toInt32) = sb ((xbN (ywi k)).getD i 0) := by
        rw [k1.1 k (by simp; omega), hC k hk i (by omega)]
        exact (sb_all _ (bN i)).1
      have := m_wa h1 (k := 52) (t := 3) rfl (by decide) (by decide) (j := i) ev (by show i < 1500; omega) (by omega) (Q := fun f10 => w_Mo_set_8 post (n + 1) (ad 57) (ad k) (nI i + 1) f10) (fun f10 h10 => ?_)
      · rw [nI_cl i (by omega)] at this
        exact this
      · rw [nI_1]
        refine ih (i + 1) _ f10 (by omega) h10 (k1.trans (yK.wa y1 _ (by decide))) e53 (fun j hj' => ?_)
        dsimp only
        rw [zup_self]
        by_cases q : j = i
        · subst q; rw [upd_self]
        · rw [upd_ne _ _ q]; exact hj j (by omega)
  exact loop (xbN (ywi k)).length 0 _ f6 (by omega) h6 k2 (by dsimp only; rw [zup_self]) (fun j hj => absurd hj (Nat.not_lt_zero _))
theorem sgF_eq (V : List Nat) (n s : Nat) : sgF V (n + 1) s = if s ≤ V.length then (s, fnd 59 V s V.length) :: sgF V n (fnd 59 V s V.length + 1) else [] := rfl
theorem sgs_0 (V : List Nat) : 0 < (sgs V).length ∧ (sgs V).getD 0 (0, 0) = (0, fnd 59 V 0 V.length) := by
  have : sgs V = (0, fnd 59 V 0 V.length) :: sgF V (V.length + 1) (fnd 59 V 0 V.length + 1) := by
    show sgF V (V.length + 1 + 1) 0 = _
    rw [sgF_eq, if_pos (Nat.zero_le _)]
  rw [this]
  exact ⟨by simp, rfl⟩
theorem y_firstItem (h : yM b f ad y) (hC : yC y M K) {e fr h_ : Nat} (he : e < 60) (hH : hdP M K fr h_) (e28 : y.1 28 e = nI fr) (e30 : y.1 30 e = nI h_) {k : Nat} (hk : k < 17) {post : xhp → Prop} (hp : ∀ f' y', yM b f' ad y' → yK [45, 50, 51, 52] [46, 47, 48, 49, 53] y y' → yGt y' (itm ((fieldV M K (xbN (ywi k)) fr h_).getD [])) → post f') : w_Mo_firstItem post (ad 57) (nI e) (ad k) f := by
  obtain ⟨w1, w2, w3⟩ := ywi_lt k hk
  refine ⟨h.O, m_ws h rfl (by decide) (by decide) (by decide) (fun f1 h1 => ⟨_, _, _, h1.ai k w3 (by decide) (by omega), by decide, h1.O, ?_⟩)⟩
  have k1 : yK [45, 50, 51, 52] [46, 47, 48, 49, 53] y (y.1, y.2.1, va_up y.2.2.1 53 0, y.2.2.2) := yK.ws y 0 (by decide)
  obtain ⟨y1, ey1⟩ : ∃ y1 : yS, y1 = (y.1, y.2.1, va_up y.2.2.1 53 (0 : Int32), y.2.2.2) := ⟨_, rfl⟩
  rw [← ey1] at h1 k1
  have g1 : yGt y1 [] := ⟨fun i hi => absurd hi (Nat.not_lt_zero _), by rw [ey1]; dsimp only; rw [zup_self]; rfl, Nat.zero_le _, zB.nil⟩
  have hC1 := hC.k k1 (by decide) (by decide)
  rw [w2]
  refine y_find h1 hC1.1 hC1.2.1 hC1.2.2.1 he hH.1 hH.2.1 hH.2.2 (by rw [k1.1 28 (by decide)]; exact e28) (by rw [k1.1 30 (by decide)]; exact e30) (hC1.2.2.2.2.w hk) (by omega) (fun f6 y6 h6 k6 hV => ?_)
  have k6' : yK [45, 50, 51, 52] [46, 47, 48, 49, 53] y y6 := k1.trans (k6.mono (by decide) (by decide))
  generalize (fieldV M K (xbN (ywi k)) fr h_) = o at hV hp ⊢
  cases o with
  | none =>
    refine ⟨fun c => absurd rfl c, fun _ => hp f6 y6 h6 k6' ?_⟩
    show yGt y6 (itm [])
    rw [itm_nil]
    exact g1.k k6 (by decide) (by decide)
  | some V =>
    change yV y6 V at hV
    refine ⟨fun _ => ⟨h6.O, y_itemize h6 hV (fun f8 y8 h8 k8 hI => ?_)⟩, fun c => absurd c (by simp [zb])⟩
    obtain ⟨s1, s2⟩ := sgs_0 V
    obtain ⟨i1, i2⟩ := hI.1 0 s1
    rw [s2] at i1 i2
    have hV8 := hV.k k8 (by decide) (by decide)
    have hse := tSE_le (V := V) (s := 0) (e := fnd 59 V 0 V.length) (Nat.zero_le _)
    have hfe := fnd_le (w := 59) (L := V) (s := 0) (e := V.length)
    have z0 : (0 : Int32) = nI 0 := rfl
    refine ⟨_, ⟨_, h8.2.2.1, rfl⟩, _, _, h8.ai 50 (t := 0) rfl (by decide) (by decide), by rw [z0]; exact vp_in_nI (by decide) (by decide), _, ⟨_, h8.2.2.1, rfl⟩, _, _, h8.ai 51 (t := 0) rfl (by decide) (by decide), by rw [z0]; exact vp_in_nI (by decide) (by decide), h8.O, ?_⟩
    rw [show (0 : Int32).toNatClampNeg = 0 from rfl, i1, i2]
    refine y_keep (q := true) h8 hV8 (by omega) hse.2.1 (fun f' y' h' k' hG => hp f' y' h' (k6'.trans ((k8.mono (by decide) (by decide)).trans (k'.mono (by decide) (by decide)))) ?_)
    exact hG
end YG
