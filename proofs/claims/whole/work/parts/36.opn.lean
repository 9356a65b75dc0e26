section ZO4
variable {b : xhp} {ad sk : Nat → Nat} {M : List Nat} {K : List (Nat × Nat)}
theorem m_openE : ∀ n dp, dp + n = 9 → zOp b ad M K n dp (wr_Mp_openEntity sk n) := by
  intro n
  induction n with
  | zero =>
    intro dp hdn t z f R lost post hQ ok hdp hp
    exfalso
    have hq : 0 < t.1 := by
      rcases Nat.eq_zero_or_pos t.1 with q | q
      · have := (ok.2.2.2.1 q).1; omega
      · exact q
    obtain ⟨o1, _, o3⟩ := ok.2.2.2.2 hq
    apply o3
    unfold tK kdH
    rw [if_neg (by omega)]
  | succ n ih =>
    intro dp hdn t z f R lost post hQ ok hdp hp
    obtain ⟨r, E, ls, made, lo⟩ := z
    obtain ⟨h, g, hM, hK, hW⟩ := hQ
    dsimp only at hM hK
    have w1 := hW.1
    have w2 := hW.2.1
    dsimp only at w1 w2
    subst hK w1 w2
    have h60 := hW.2.2.1
    have hKl : ls.length ≤ 1500 := h.2.2.2.2.1.1
    have hfr := ok.2.1
    have hto := ok.2.2.1
    have hH := tH_le M ls ok.2.1
    obtain ⟨gea, hea, _⟩ := h.2.2.2.2.2.2.1
    refine ⟨nI R.length, ⟨_, h.2.2.1, rfl⟩, _, ⟨_, h.2.2.1, rfl⟩, 2, 60, _, hea, by decide, fun c => ?_, fun c => ⟨fun _ => ?_, fun c2 => absurd (nI_le (b := 8) (by omega) (by omega)) c2⟩⟩
    · rw [nI_leI (by omega) (by omega)] at c
      refine ⟨nI lo, ⟨_, h.2.2.1, rfl⟩, _, h.2.2.1, (by decide : (15 : Nat) < 16), fun f3 ef => ?_⟩
      subst ef
      refine hp _ (r, E, ls, R.length, lo + 1) ?_ (fun _ _ _ => rfl)
      have e1 : opE M ls (n + 1) t (R, lo) = (R, lo + 1) := by unfold opE; rw [if_neg (by dsimp only; omega)]
      rw [e1]
      refine ⟨h.setMain (made := R.length) (lost := lo + 1) (by rw [nI_1]; exact zmain_lost _ _ _ _), g, hM, rfl, hW.1, rfl, hW.2.2.1, hW.2.2.2⟩
    · rw [nI_leI (by omega) (by omega)] at c
      have c60 : R.length < 60 := by omega
      have e1 : opE M ls (n + 1) t (R, lo) = (kids M ls t R.length).foldl (fun s t => opE M ls n t s) (R ++ [t], lo) := by
        show (if _ then _ else _) = _
        rw [if_pos c60]
      rw [e1] at hp
      refine ⟨nI R.length, ⟨_, h.2.2.1, rfl⟩, nI R.length, ⟨_, h.2.2.1, rfl⟩, _, h.2.2.1, (by decide : (14 : Nat) < 16), fun f10 ef => ?_⟩
      have h10 : zMP b f10 ad (r, E, ls, R.length + 1, lo) := by
        subst ef
        exact h.setMain (made := R.length + 1) (lost := lo) (by rw [nI_1]; exact zmain_made _ _ _ _)
      clear ef
      obtain ⟨gea2, hea2, hge2⟩ := h10.2.2.2.2.2.2.1
      refine ⟨_, ⟨_, h10.2.2.1, rfl⟩, 2, 0, 60, _, hea2, Or.inr ⟨rfl, rfl⟩, vp_in_nI c60 (by omega), fun r14 er => ⟨zen ad R.length, ?_, ?_⟩⟩
      · rw [er, nI_clamp (by omega), hge2 _ c60]
      refine m_wr (h10.e0 R.length) c60 (by decide) (fun f19 h19 => m_wr h19 c60 (by decide) (fun f21 h21 => m_wr h21 c60 (by decide) (fun f23 h23 => m_wr h23 c60 (by decide) (fun f25 h25 => m_wr h25 c60 (by decide) (fun f27 h27 => m_wr h27 c60 (by decide) (fun f29 h29 => ?_))))))
      clear h19 h21 h23 h25 h27
      obtain ⟨w, hw⟩ : ∃ w, w = va_up (va_up (va_up (va_up (va_up (va_up (E R.length) 1 (iI t.1)) 2 (nI t.2.1)) 4 (nI t.2.2.1)) 7 (nI t.2.2.2.1)) 8 0) 9 (-1) := ⟨_, rfl⟩
      rw [← hw] at h29
      have u1 : w 1 = iI t.1 := by rw [hw]; rfl
      have u2 : w 2 = nI t.2.1 := by rw [hw]; rfl
      have u4 : w 4 = nI t.2.2.1 := by rw [hw]; rfl
      have u7 : w 7 = nI t.2.2.2.1 := by rw [hw]; rfl
      have u8 : w 8 = 0 := by rw [hw]; rfl
      have u9 : w 9 = -1 := by rw [hw]; rfl
      refine ⟨_, ⟨_, h29.2.2.1, rfl⟩, h29.mO, m_headStop h29 g.1 g.2.1 (by omega) (by omega) (m_wr h29 c60 (by decide) (fun f34 h34 => ?_))⟩
      dsimp only at h34
      have hh : hd (r 2) ls t.2.2.1 t.2.2.2.1 = tH M ls t := by rw [hM]; rfl
      rw [hh] at h34
      have v5 : (va_up w 5 (nI (tH M ls t))) 5 = nI (tH M ls t) := zup_self _ _ _
      have fin : ∀ s0, s0 = nI (tB M ls t) → w_Mp_openEntity_147 sk (wr_Mp_openEntity sk n) post (ad 0) (nI t.2.2.2.1) (iI t.1) (nI t.2.1) (nI R.length) (zen ad R.length) s0 (zen ad R.length) f34 := by
        intro s0 e0
        subst e0
        refine m_o147 (n := n) (ih (t.2.1 + 1) (by omega)) h34 g hM hW ok (by omega) c60 ?_ ?_ ?_ v5 ?_ ?_ ?_ (fun f' z' hz hr => hp f' z' hz (fun j n3 nj => hr j n3 (by omega)))
        · rw [zup_ne _ _ (by decide)]; exact u1
        · rw [zup_ne _ _ (by decide)]; exact u2
        · rw [zup_ne _ _ (by decide)]; exact u4
        · rw [zup_ne _ _ (by decide)]; exact u7
        · rw [zup_ne _ _ (by decide)]; exact u8
        · rw [zup_ne _ _ (by decide)]; exact u9
      refine ⟨nI (tH M ls t), h34.ef c60 (by decide) v5, fun c3 => ?_, fun c3 => ⟨_, ⟨_, h34.2.2.1, rfl⟩, nI (tH M ls t), h34.ef c60 (by decide) v5, h34.mO, m_isEmptyLine h34 (by omega) g.2.1 ⟨fun c4 => ?_, fun c4 => ⟨nI (tH M ls t), h34.ef c60 (by decide) v5, ?_⟩⟩⟩⟩
      · rw [nI_leI (by omega) (by omega)] at c3
        refine ⟨nI (tH M ls t), h34.ef c60 (by decide) v5, fin _ ?_⟩
        unfold tB ebd
        rw [if_neg (by omega)]
      · rw [nI_leI (by omega) (by omega)] at c3
        refine ⟨nI (tH M ls t), h34.ef c60 (by decide) v5, fin _ ?_⟩
        dsimp only at c4
        simp only [hM] at c4
        unfold tB ebd
        rw [if_neg]
        intro q
        rw [if_neg q.2] at c4
        exact absurd c4 (by decide)
      · rw [nI_leI (by omega) (by omega)] at c3
        refine fin _ ?_
        dsimp only at c4
        simp only [hM] at c4
        rw [nI_1]
        unfold tB ebd
        rw [if_pos]
        refine ⟨by omega, fun q => ?_⟩
        rw [if_pos q] at c4
        exact absurd rfl c4
end ZO4
