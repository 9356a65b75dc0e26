/-! find -/
/-- the VALUE's array -/
def yV (y : yS) (V : List Nat) : Prop := yB y 45 V ∧ y.2.2.1 46 = nI V.length ∧ V.length ≤ 1500 ∧ zB V
theorem yB.app {y y' : yS} {k : Nat} {L : List Nat} {x : Nat} (h : yB y k L) (e : y'.1 k = upd (y.1 k) L.length (sb x)) : yB y' k (L ++ [x]) := by
  intro i hi
  simp only [List.length_append, List.length_cons, List.length_nil] at hi
  rw [e]
  by_cases q : i = L.length
  · subst q
    rw [upd_self]
    simp [List.getD]
  · rw [upd_ne _ _ q, h i (by omega)]
    simp only [List.getD_eq_getElem?_getD]
    rw [List.getElem?_append_left (by omega)]
theorem zB.one {x : Nat} (h : x < 256) : zB [x] := zB.nil.cons h
theorem sub_cons {M : List Nat} {p e : Nat} (hp : p < e) (he : e ≤ M.length) : sub M p e = M.getD p 0 :: sub M (p + 1) e := by
  have hp2 : p < M.length := by omega
  simp only [sub]
  rw [show e - p = (e - (p + 1)) + 1 by omega, List.drop_eq_getElem_cons hp2, List.take_succ_cons]
  simp [List.getD, hp2]
theorem sub_nil {M : List Nat} {p e : Nat} (h : e ≤ p) : sub M p e = [] := by
  simp only [sub]
  rw [show e - p = 0 by omega, List.take_zero]
section YF
variable {b : xhp} {ad : Nat → Nat} {M : List Nat} {K : List (Nat × Nat)}
theorem y_find_out (hL : zL M K) {e h_ fr : Nat} (he : e < 60) (hh : h_ ≤ K.length) (hH : ∀ l, fr < l → l < h_ → colL M K l = none → blk M K l = true) {post : Int32 → xhp → Prop} : ∀ (n l p : Nat) (V : List Nat) (y : yS) (f : xhp), h_ - l ≤ n → fr ≤ l → l < h_ → lf M K l ≤ p → p ≤ lt M K l → V.length ≤ p → yM b f ad y → yMl y M → yLn y K → yV y V → y.1 30 e = nI h_ → (∀ f' y', yM b f' ad y' → yK [45] [46] y y' → yV y' (V ++ (sub M p (lt M K l) ++ vcF M K h_ (h_ - (l + 1)) (l + 1))) → post 1 f') → w_Mo_find_91 post (n + 1) (ad 57) (nI e) (nI l) (nI p) 1 f := by
  intro n
  induction n with
  | zero => intro l p V y f hn hfl hl; omega
  | succ n ih =>
    intro l p V y f hn hfl hl hp1 hp2 hVp h hM hK hV e30 hp
    have hM2 := hM.2.2.1
    have bM := hM.2.2.2
    have hKl : K.length ≤ 1500 := Nat.le_trans hL.1 hM2
    have hle := hL.f_le l
    have hl3 : l < K.length := by omega
    refine ⟨fun c => absurd c (by decide), fun _ => ⟨(lt M K l - p) + 1, ?_⟩⟩
    have inn : ∀ (v p : Nat) (V : List Nat) (y : yS) (f : xhp), lt M K l - p = v → lf M K l ≤ p → p ≤ lt M K l → V.length ≤ p → yM b f ad y → yMl y M → yLn y K → yV y V → y.1 30 e = nI h_ → (∀ f' y', yM b f' ad y' → yK [45] [46] y y' → yV y' (V ++ (sub M p (lt M K l) ++ vcF M K h_ (h_ - (l + 1)) (l + 1))) → post 1 f') → w_Mo_find_96 post (w_Mo_find_91 post (n + 1)) (v + 1) (ad 57) (nI e) (nI l) (nI p) f := by
      intro v
      induction v with
      | zero =>
        intro p V y f hv hp1 hp2 hVp h hM hK hV e30 hp
        have hpe : p = lt M K l := by omega
        rw [sub_nil (by omega), List.nil_append] at hp
        refine ⟨_, ⟨_, h.2.2.1, rfl⟩, _, _, h.ai 25 (t := 0) rfl (by decide) (by decide), vp_in_nI (by show l < 1501; omega) (by decide), ?_⟩
        rw [nI_cl l (by omega), (hK.1 l hl3).2, ← lt_in (M := M) hl3]
        refine ⟨fun _ => ⟨_, ⟨_, h.2.2.1, rfl⟩, _, _, h.ai 30 (t := 0) rfl (by decide) (by decide), vp_in_nI he (by decide), ?_⟩, fun c => absurd (nI_le (by omega) (by omega)) c⟩
        rw [nI_cl e (by omega), e30, nI_1 l]
        have no : vcF M K h_ (h_ - (l + 1)) (l + 1) = [] → w_Mo_find_168 post (w_Mo_find_91 post (n + 1)) (ad 57) (nI e) (nI (l + 1)) f := by
          intro hv0
          refine ⟨fun _ => ⟨fun _ => ⟨Or.inr rfl, ?_⟩, fun q => absurd rfl q⟩, fun q => absurd rfl q⟩
          rw [hv0, List.append_nil] at hp
          exact hp f y h (yK.refl y) hV
        refine ⟨fun c => ?_, fun c => ⟨h.O, ?_⟩⟩
        · rw [nI_leI (by omega) (by omega)] at c
          exact no (by rw [show h_ - (l + 1) = 0 by omega]; rfl)
        · rw [nI_leI (by omega) (by omega)] at c
          have hl4 : l + 1 < K.length := by omega
          have hle1 := hL.f_le (l + 1)
          have hnx := hL.f_next l
          obtain ⟨m, em⟩ : ∃ m, h_ - (l + 1) = m + 1 := ⟨h_ - (l + 1) - 1, by omega⟩
          have ev : vcF M K h_ (h_ - (l + 1)) (l + 1) = if l + 1 < h_ ∧ blk M K (l + 1) = true then sub M (lf M K (l + 1)) (lt M K (l + 1)) ++ vcF M K h_ m (l + 1 + 1) else [] := by rw [em]; rfl
          refine y_colon h hM hK hL hl4 ?_
          have ob : ∀ t, colL M K (l + 1) = some t → t < 2 ^ 31 := fun t ht => by have h1 := colL_lt ht; omega
          rw [show (oI (colL M K (l + 1)) = -1) = (colL M K (l + 1) = none) from propext (oI_none ob)]
          refine ⟨fun c1 => no ?_, fun c1 => ⟨fun q => absurd q (by decide), fun _ => ⟨_, ⟨_, h.2.2.1, rfl⟩, _, _, h.ai 24 (t := 0) rfl (by decide) (by decide), vp_in_nI (by show l + 1 < 1501; omega) (by decide), ?_⟩⟩⟩
          · rw [ev, if_neg (fun q => c1 (blk_col q.2))]
          · have hb := hH (l + 1) (by omega) (by omega) c1
            rw [nI_cl (l + 1) (by omega), (hK.1 (l + 1) hl4).1, ← lf_in (M := M) hl4]
            refine ih (l + 1) (lf M K (l + 1)) V y f (by omega) (by omega) (by omega) (Nat.le_refl _) hle1.1 (by omega) h hM hK hV e30 ?_
            rw [ev, if_pos ⟨by omega, hb⟩] at hp
            rw [show h_ - (l + 1 + 1) = m by omega]
            exact hp
      | succ v ihv =>
        intro p V y f hv hp1 hp2 hVp h hM hK hV e30 hp
        have hpl : p < lt M K l := by omega
        refine ⟨_, ⟨_, h.2.2.1, rfl⟩, _, _, h.ai 25 (t := 0) rfl (by decide) (by decide), vp_in_nI (by show l < 1501; omega) (by decide), ?_⟩
        rw [nI_cl l (by omega), (hK.1 l hl3).2, ← lt_in (M := M) hl3]
        refine ⟨fun c => absurd c (by rw [nI_leI (by omega) (by omega)]; omega), fun _ => ⟨_, ⟨_, h.2.2.1, rfl⟩, nI V.length, ⟨_, h.2.2.1, by rw [← hV.2.1]; rfl⟩, _, ⟨_, h.2.2.1, rfl⟩, _, _, h.ai 20 (t := 3) rfl (by decide) (by decide), vp_in_nI (by show p < 1500; omega) (by decide), ?_⟩⟩
        rw [nI_cl p (by omega), hM.1 p (by omega)]
        refine m_wa h (k := 45) (t := 3) rfl (by decide) (by decide) (sb_all _ (bM p)).1 (by show V.length < 1500; omega) (by omega) (fun f16 h16 => ⟨nI V.length, ⟨_, h16.2.2.1, by rw [← hV.2.1]; rfl⟩, m_ws h16 rfl (by decide) (by decide) (by decide) (fun f19 h19 => ?_)⟩)
        rw [nI_1 p]
        have kk : yK [45] [46] y (va_up y.1 45 (upd (y.1 45) V.length (sb (M.getD p 0))), y.2.1, va_up y.2.2.1 46 (nI V.length + 1), y.2.2.2) :=
          (yK.wa y _ (by decide)).trans (yK.ws _ _ (by decide))
        have hV' : yV (va_up y.1 45 (upd (y.1 45) V.length (sb (M.getD p 0))), y.2.1, va_up y.2.2.1 46 (nI V.length + 1), y.2.2.2) (V ++ [M.getD p 0]) := by
          refine ⟨hV.1.app (by dsimp only; rw [zup_self]), by dsimp only; rw [zup_self, nI_1]; simp, by simp; omega, hV.2.2.2.app (zB.one (bM p))⟩
        refine ihv (p + 1) (V ++ [M.getD p 0]) _ f19 (by omega) (by omega) (by omega) (by simp; omega) h19 (hM.k kk (by decide) (by decide)) (hK.k kk (by decide) (by decide) (by decide)) hV' (by rw [kk.1 30 (by decide)]; exact e30) (fun f' y' h' hk' hv' => hp f' y' h' (kk.trans hk') ?_)
        rw [sub_cons hpl (by omega)]
        rw [List.append_assoc, List.cons_append, List.nil_append] at hv'
        exact hv'
    exact inn (lt M K l - p) p V y f rfl hp1 hp2 hVp h hM hK hV e30 hp
theorem y_find {y : yS} {f : xhp} (h : yM b f ad y) (hM : yMl y M) (hK : yLn y K) (hL : zL M K) {e h_ fr kw : Nat} {N : List Nat} (he : e < 60) (hfh : fr ≤ h_) (hh : h_ ≤ K.length) (hH : ∀ l, fr < l → l < h_ → colL M K l = none → blk M K l = true) (e28 : y.1 28 e = nI fr) (e30 : y.1 30 e = nI h_) (hN : yWd y kw N) (hkw : kw ≠ 45) {post : Int32 → xhp → Prop} (hp : ∀ f' y', yM b f' ad y' → yK [45] [46] y y' → yV y' ((fieldV M K N fr h_).getD []) → post (zb (fieldV M K N fr h_).isSome) f') : w_Mo_find post (ad 57) (nI e) (ad kw) (nI N.length) f := by
  have hM2 := hM.2.2.1
  have bM := hM.2.2.2
  have hKl : K.length ≤ 1500 := Nat.le_trans hL.1 hM2
  refine m_ws h rfl (by decide) (by decide) (by decide) (fun f2 h2 => ?_)
  have k2 : yK [45] [46] y (y.1, y.2.1, va_up y.2.2.1 46 0, y.2.2.2) := yK.ws y 0 (by decide)
  obtain ⟨y2, ey2⟩ : ∃ y2, y2 = (y.1, y.2.1, va_up y.2.2.1 46 (0 : Int32), y.2.2.2) := ⟨_, rfl⟩
  have hV2 : yV y2 [] := ⟨fun i hi => absurd hi (Nat.not_lt_zero _), by rw [ey2]; dsimp only; rw [zup_self]; rfl, Nat.zero_le _, zB.nil⟩
  rw [← ey2] at h2 k2
  have hM' := hM.k k2 (by decide) (by decide)
  have hK' := hK.k k2 (by decide) (by decide) (by decide)
  have e28' : y2.1 28 e = nI fr := by rw [ey2]; exact e28
  have e30' : y2.1 30 e = nI h_ := by rw [ey2]; exact e30
  have hN' : yWd y2 kw N := by rw [ey2]; exact hN
  have a30 := h2.ai 30 (t := 0) rfl (by decide) (by decide)
  have ve : vp_in (nI e) 60 := vp_in_nI he (by decide)
  refine ⟨_, ⟨_, h2.2.2.1, rfl⟩, _, _, h2.ai 28 (t := 0) rfl (by decide) (by decide), ve, (h_ - fr) + 1, ?_⟩
  rw [nI_cl e (by omega), e28']
  -- the field is there
  have yes : ∀ l, fr ≤ l → l < h_ → fl M K N fr h_ = some l → colL M K l = some (lf M K l + N.length) → w_Mo_find_65 post (ad 57) (nI e) (nI l) f2 := by
    intro l hl0 hl1 efl ec
    have hl3 : l < K.length := by omega
    have hc := colL_lt ec
    have hle := hL.f_le l
    refine ⟨_, ⟨_, h2.2.2.1, rfl⟩, _, _, a30, ve, ?_⟩
    rw [nI_cl e (by omega), e30']
    refine ⟨fun _ => ⟨h2.O, y_colon h2 hM' hK' hL hl3 ⟨(h_ - l) + 1, ?_⟩⟩, fun c => absurd (nI_lt (by omega) (by omega)) c⟩
    rw [ec]
    show w_Mo_find_91 post _ _ _ _ (nI (lf M K l + N.length) + 1) 1 f2
    rw [nI_1]
    have efv : fieldV M K N fr h_ = some (valL M K l (lf M K l + N.length) h_) := by unfold fieldV; rw [efl]; rfl
    rw [efv] at hp
    refine y_find_out hL he hh hH (h_ - l) l (lf M K l + N.length + 1) [] y2 f2 (Nat.le_refl _) hl0 hl1 (by omega) (by omega) (Nat.zero_le _) h2 hM' hK' hV2 e30' (fun f' y' h' hk' hv' => hp f' y' h' (k2.trans hk') ?_)
    exact hv'
  have loop : ∀ n l, h_ - l = n → fr ≤ l → l ≤ h_ → fl M K N fr h_ = flF M K N h_ n l → w_Mo_find_13 post (n + 1) (ad 57) (nI e) (ad kw) (nI N.length) (nI l) f2 := by
    intro n
    induction n with
    | zero =>
      intro l hn hl0 hl1 efl
      refine ⟨_, ⟨_, h2.2.2.1, rfl⟩, _, _, a30, ve, ?_⟩
      rw [nI_cl e (by omega), e30']
      refine ⟨fun _ => ⟨_, ⟨_, h2.2.2.1, rfl⟩, _, _, a30, ve, ?_⟩, fun c => absurd (nI_le (by omega) (by omega)) c⟩
      rw [nI_cl e (by omega), e30']
      refine ⟨fun c => absurd c (by rw [nI_ltI (by omega) (by omega)]; omega), fun _ => ⟨Or.inl rfl, ?_⟩⟩
      have efv : fieldV M K N fr h_ = none := by unfold fieldV; rw [efl]; rfl
      rw [efv] at hp
      exact hp f2 y2 h2 k2 hV2
    | succ n ih =>
      intro l hn hl0 hl1 efl
      have hlt : l < h_ := by omega
      have hl3 : l < K.length := by omega
      have hle := hL.f_le l
      have e2 : flF M K N h_ (n + 1) l = if colL M K l = some (lf M K l + N.length) ∧ hasNm M N (lf M K l) = true then some l else flF M K N h_ n (l + 1) := by
        show (if _ then _ else _) = _
        rw [if_pos hlt]
      rw [e2] at efl
      have nx : ¬ (colL M K l = some (lf M K l + N.length) ∧ hasNm M N (lf M K l) = true) → w_Mo_find_59 post (w_Mo_find_13 post (n + 1)) (ad 57) (nI e) (ad kw) (nI N.length) (nI l) f2 := by
        intro q
        rw [if_neg q] at efl
        show w_Mo_find_13 post (n + 1) _ _ _ _ (nI l + 1) f2
        rw [nI_1]
        exact ih (l + 1) (by omega) (by omega) (by omega) efl
      refine ⟨_, ⟨_, h2.2.2.1, rfl⟩, _, _, a30, ve, ?_⟩
      rw [nI_cl e (by omega), e30']
      refine ⟨fun c => absurd c (by rw [nI_leI (by omega) (by omega)]; omega), fun _ => ⟨h2.O, y_colon h2 hM' hK' hL hl3 ?_⟩⟩
      cases hc : colL M K l with
      | none =>
        exact ⟨fun _ => nx (fun q => by rw [hc] at q; cases q.1), fun c => absurd rfl c⟩
      | some c =>
        have hcl := colL_lt hc
        refine ⟨fun q => absurd ((oI_none (o := some c) (fun t ht => by cases ht; omega)).mp q) (by simp), fun _ => ⟨_, ⟨_, h2.2.2.1, rfl⟩, _, ⟨_, h2.2.2.1, rfl⟩, _, _, h2.ai 24 (t := 0) rfl (by decide) (by decide), vp_in_nI (by show l < 1501; omega) (by decide), h2.O, y_colon h2 hM' hK' hL hl3 ?_⟩⟩
        rw [hc, nI_cl l (by omega), (hK'.1 l hl3).1, ← lf_in (M := M) hl3]
        refine y_isWord h2 (ka := 20) rfl (by decide) hM'.1 bM hM2 hM2 hN' (s := lf M K l) (e := c) (by omega) (by omega) ?_
        refine ⟨fun q => ?_, fun q => nx (fun w => ?_)⟩
        · rw [zb_n0, Bool.and_eq_true] at q
          have q1 := of_decide_eq_true q.1
          have ec : colL M K l = some (lf M K l + N.length) := by rw [hc]; congr 1; omega
          rw [if_pos ⟨ec, q.2⟩] at efl
          exact yes l hl0 hlt efl ec
        · rw [zb_0] at q
          rw [hc] at w
          have w1 : c = lf M K l + N.length := Option.some.inj w.1
          rw [decide_eq_true (show c - lf M K l = N.length by omega), w.2] at q
          exact absurd q (by decide)
  exact loop (h_ - fr) fr rfl (Nat.le_refl _) hfh rfl
end YF
