/-! findHead, find -/
theorem blk_col {M : List Nat} {K : List (Nat × Nat)} {l : Nat} (h : blk M K l = true) : colL M K l = none := by
  unfold blk at h
  rw [Bool.and_eq_true] at h
  have hb : isBlk (M.getD (lf M K l) 0) = true := h.2
  unfold colL col
  generalize lt M K l - lf M K l = n
  cases n with
  | zero => rfl
  | succ n =>
    show (if _ then _ else _) = _
    split
    · have hx : M.getD (lf M K l) 0 = 32 ∨ M.getD (lf M K l) 0 = 9 := by
        simpa [isBlk] using hb
      rcases hx with hx | hx
      · rw [hx]; rfl
      · rw [hx]; rfl
    · rfl
section YH
variable {b : xhp} {ad : Nat → Nat} {M : List Nat} {K : List (Nat × Nat)} {y : yS} {f : xhp}
theorem y_findHead (h : yM b f ad y) (hM : yMl y M) (hK : yLn y K) (hL : zL M K) (hLe : zLe M K) {e fr to_ : Nat} (he : e < 60) (hfr : fr ≤ to_) (hto : to_ ≤ K.length) (e28 : y.1 28 e = nI fr) (e29 : y.1 29 e = nI to_) {post : xhp → Prop} (hp : ∀ f', yM b f' ad (va_up (va_up y.1 30 (upd (y.1 30) e (nI (hd M K fr to_)))) 31 (upd (y.1 31) e (nI (ebd M K (hd M K fr to_) to_))), y.2) → post f') : w_Mo_findHead post (ad 57) (nI e) f := by
  have hM2 := hM.2.2.1
  have hKl : K.length ≤ 1500 := Nat.le_trans hL.1 hM2
  have ve : vp_in (nI e) 60 := vp_in_nI he (by decide)
  have a29 := h.ai 29 (t := 0) rfl (by decide) (by decide)
  -- the end
  have fin : ∀ l, l = hd M K fr to_ → l ≤ to_ → w_Mo_findHead_122 post (ad 57) (nI e) (nI l) f := by
    intro l el hl
    refine ⟨_, ⟨_, h.2.2.1, rfl⟩, m_wa h (k := 30) (t := 0) rfl (by decide) (by decide) rfl he (by omega) (fun f4 h4 => ⟨_, ⟨_, h4.2.2.1, rfl⟩, _, ⟨_, h4.2.2.1, rfl⟩, _, _, h4.ai 29 (t := 0) rfl (by decide) (by decide), ve, ?_⟩)⟩
    have last : ∀ b', b' = ebd M K (hd M K fr to_) to_ → w_Mo_findHead_166 post (nI b') (nI e) (ad 31) f4 := by
      intro b' eb
      refine m_wa h4 (k := 31) (t := 0) rfl (by decide) (by decide) rfl he (by omega) (fun f5 h5 => hp f5 ?_)
      dsimp only at h5
      rw [zup_ne _ _ (by decide), el, eb] at h5
      exact h5
    dsimp only
    rw [nI_cl e (by omega), zup_ne _ _ (by decide), e29]
    refine ⟨fun c => ?_, fun c => ⟨_, ⟨_, h4.2.2.1, rfl⟩, _, _, h4.ai 24 (t := 0) rfl (by decide) (by decide), ?_, _, ⟨_, h4.2.2.1, rfl⟩, _, _, h4.ai 25 (t := 0) rfl (by decide) (by decide), ?_, ?_⟩⟩
    · rw [nI_leI (by omega) (by omega)] at c
      exact last l (by rw [el]; unfold ebd; rw [if_neg (by omega)])
    · exact vp_in_nI (by show l < 1501; omega) (by decide)
    · exact vp_in_nI (by show l < 1501; omega) (by decide)
    · rw [nI_leI (by omega) (by omega)] at c
      have hl2 : l < K.length := by omega
      dsimp only
      rw [nI_cl l (by omega), zup_ne _ _ (by decide), zup_ne _ _ (by decide), (hK.1 l hl2).1, (hK.1 l hl2).2, ← lf_in (M := M) hl2, ← lt_in (M := M) hl2]
      have hle := hL.f_le l
      rw [nI_eq (by omega) (by omega)]
      refine ⟨fun c1 => ?_, fun c1 => ?_⟩
      · exact last l (by rw [el] at c c1 hle ⊢; unfold ebd; rw [if_neg (by omega)])
      · rw [nI_1]
        exact last (l + 1) (by rw [el] at c c1 hle ⊢; unfold ebd; rw [if_pos (by omega)])
  have loop : ∀ n l, to_ - l = n → fr ≤ l → l ≤ to_ → hd M K fr to_ = hdF M K fr to_ n l → w_Mo_findHead_12 post (n + 2) (ad 57) (nI e) (nI l) (zb (decide (fr < l))) 1 f := by
    intro n
    induction n with
    | zero =>
      intro l hn hl1 hl2 eh
      have : l = to_ := by omega
      subst this
      refine ⟨_, ⟨_, h.2.2.1, rfl⟩, _, _, a29, ve, ?_⟩
      rw [nI_cl e (by omega), e29]
      exact ⟨fun _ => fin l eh.symm (Nat.le_refl _), fun c => absurd (nI_le (Nat.le_refl _) (by omega)) c⟩
    | succ n ih =>
      intro l hn hl1 hl2 eh
      have hlt : l < to_ := by omega
      have eh2 : hdF M K fr to_ (n + 1) l = if (fr < l ∧ blk M K l = true) ∨ colL M K l ≠ none then hdF M K fr to_ n (l + 1) else l := by
        show (if _ then _ else _) = _
        rw [if_pos hlt]
      rw [eh2] at eh
      refine ⟨_, ⟨_, h.2.2.1, rfl⟩, _, _, a29, ve, ?_⟩
      rw [nI_cl e (by omega), e29]
      refine ⟨fun c => absurd c (by rw [nI_leI (by omega) (by omega)]; omega), fun _ => ⟨fun c => absurd c (by decide), fun _ => ⟨h.O, y_colon h hM hK hL (by omega) ?_⟩⟩⟩
      -- goes on
      have go : ((fr < l ∧ blk M K l = true) ∨ colL M K l ≠ none) → w_Mo_findHead_12 post (n + 2) (ad 57) (nI e) (nI l + 1) 1 1 f := by
        intro q
        rw [if_pos q] at eh
        rw [nI_1]
        have := ih (l + 1) (by omega) (by omega) (by omega) eh
        rw [decide_eq_true (show fr < l + 1 by omega)] at this
        exact this
      have stop : ¬ ((fr < l ∧ blk M K l = true) ∨ colL M K l ≠ none) → ∀ s, w_Mo_findHead_12 post (n + 2) (ad 57) (nI e) (nI l + 0) s 0 f := by
        intro q s
        rw [if_neg q] at eh
        rw [Int32.add_zero]
        refine ⟨_, ⟨_, h.2.2.1, rfl⟩, _, _, a29, ve, ?_⟩
        exact ⟨fun _ => fin l eh.symm hl2, fun _ => ⟨fun _ => fin l eh.symm hl2, fun c => absurd rfl c⟩⟩
      have ob : ∀ t, colL M K l = some t → t < 2 ^ 31 := fun t ht => by have h1 := colL_lt ht; have := hL.f_le l; omega
      rw [show (oI (colL M K l) = -1) = (colL M K l = none) from propext (oI_none ob)]
      refine ⟨fun c => ?_, fun c => ?_⟩
      · refine ⟨fun q => absurd rfl q, fun _ => ⟨fun q => ?_, fun q => ?_⟩⟩
        · rw [zb_0] at q
          have hnl : ¬ fr < l := of_decide_eq_false q
          have ns : ¬ ((fr < l ∧ blk M K l = true) ∨ colL M K l ≠ none) := fun w => w.elim (fun w => hnl w.1) (fun w => w c)
          show w_Mo_findHead_89 post _ _ _ _ _ _ _ f
          rw [q]
          exact ⟨fun w => absurd rfl w, fun _ => ⟨fun _ => ⟨fun _ => stop ns _, fun w => absurd rfl w⟩, fun w => absurd rfl w⟩⟩
        · rw [zb_n0] at q
          have hnl : fr < l := of_decide_eq_true q
          have hle := hL.f_le l
          have hl3 : l < K.length := by omega
          have s88 : blk M K l = false → w_Mo_findHead_88 post (w_Mo_findHead_12 post (n + 2)) (ad 57) (nI e) (nI l) (zb (decide (fr < l))) 0 f := by
            intro hb
            have ns : ¬ ((fr < l ∧ blk M K l = true) ∨ colL M K l ≠ none) := fun w => w.elim (fun w => by rw [hb] at w; exact absurd w.2 (by decide)) (fun w => w c)
            show w_Mo_findHead_89 post _ _ _ _ _ _ _ f
            rw [q]
            exact ⟨fun _ => ⟨fun _ => stop ns _, fun w => absurd rfl w⟩, fun w => absurd w (by decide)⟩
          refine ⟨_, ⟨_, h.2.2.1, rfl⟩, _, _, h.ai 24 (t := 0) rfl (by decide) (by decide), vp_in_nI (by show l < 1501; omega) (by decide), _, ⟨_, h.2.2.1, rfl⟩, _, _, h.ai 25 (t := 0) rfl (by decide) (by decide), vp_in_nI (by show l < 1501; omega) (by decide), ?_⟩
          rw [nI_cl l (by omega), (hK.1 l hl3).1, (hK.1 l hl3).2, ← lf_in (M := M) hl3, ← lt_in (M := M) hl3]
          refine ⟨fun c1 => ?_, fun c1 => ⟨_, ⟨_, h.2.2.1, rfl⟩, _, ⟨_, h.2.2.1, rfl⟩, _, _, h.ai 24 (t := 0) rfl (by decide) (by decide), vp_in_nI (by show l < 1501; omega) (by decide), _, _, h.ai 20 (t := 3) rfl (by decide) (by decide), ?_, ?_⟩⟩
          · rw [nI_leI (by omega) (by omega)] at c1
            refine s88 ?_
            unfold blk
            rw [hLe l hl3 (by omega), Bool.and_false]
          · rw [nI_leI (by omega) (by omega)] at c1
            rw [(hK.1 l hl3).1, ← lf_in (M := M) hl3]
            exact vp_in_nI (by show lf M K l < 1500; omega) (by decide)
          · rw [nI_leI (by omega) (by omega)] at c1
            rw [(hK.1 l hl3).1, ← lf_in (M := M) hl3, nI_cl (lf M K l) (by omega), hM.1 _ (by omega)]
            have eb : blk M K l = isBlk (M.getD (lf M K l) 0) := by
              unfold blk; rw [decide_eq_true (by omega), Bool.true_and]
            refine y_blank (hM.2.2.2 _) ⟨fun c2 => ?_, fun c2 => ?_⟩
            · rw [zb_0] at c2
              exact s88 (by rw [eb]; exact c2)
            · rw [zb_n0] at c2
              show w_Mo_findHead_89 post _ _ _ _ _ _ _ f
              rw [q]
              exact ⟨fun _ => ⟨fun w => absurd w (by decide), fun _ => go (Or.inl ⟨hnl, by rw [eb]; exact c2⟩)⟩, fun w => absurd w (by decide)⟩
      · refine ⟨fun _ => ?_, fun q => absurd q (by decide)⟩
        exact ⟨fun _ => ⟨fun w => absurd w (by decide), fun _ => go (Or.inr c)⟩, fun _ => ⟨fun w => absurd w (by decide), fun _ => ⟨fun w => absurd w (by decide), fun _ => go (Or.inr c)⟩⟩⟩
  refine ⟨_, ⟨_, h.2.2.1, rfl⟩, _, _, h.ai 28 (t := 0) rfl (by decide) (by decide), ve, (to_ - fr) + 2, ?_⟩
  rw [nI_cl e (by omega), e28]
  have := loop (to_ - fr) fr rfl (Nat.le_refl _) hfr rfl
  rw [decide_eq_false (Nat.lt_irrefl fr)] at this
  exact this
end YH
