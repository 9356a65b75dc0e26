/-! parameterOf -/
theorem parF_eq (V N : List Nat) (n s : Nat) : parF V N (n + 1) s = if s ≤ V.length then (if fnd 61 V s (fnd 59 V s V.length) < fnd 59 V s V.length ∧ nameEq V N s (fnd 61 V s (fnd 59 V s V.length)) = true then some (unq (trim V (fnd 61 V s (fnd 59 V s V.length) + 1) (fnd 59 V s V.length))) else parF V N n (fnd 59 V s V.length + 1)) else none := rfl
theorem drop_get {S T : List (Nat × Nat)} {i : Nat} {x : Nat × Nat} (h : S.drop i = x :: T) : i < S.length ∧ S.getD i (0, 0) = x ∧ S.drop (i + 1) = T := by
  have hi : i < S.length := by
    apply Classical.byContradiction
    intro c
    rw [List.drop_eq_nil_of_le (by omega)] at h
    cases h
  rw [List.drop_eq_getElem_cons hi] at h
  have h1 := (List.cons.inj h).1
  have h2 := (List.cons.inj h).2
  exact ⟨hi, by simp [List.getD, hi, h1], h2⟩
section YP
variable {b : xhp} {ad : Nat → Nat} {V N : List Nat}
theorem y_par_aux {kw : Nat} (hkw : kw < 17 ∨ kw = 56) {S : List (Nat × Nat)} (hS : S.length ≤ 1502) {y0 : yS} {post : Int32 → xhp → Prop} : ∀ (u i s n m : Nat) (y : yS) (f : xhp), S.length ≤ i + u → S.drop i = sgF V n s → V.length + 2 ≤ s + n → V.length + 2 ≤ s + m → i ≤ S.length → yM b f ad y → yK [50, 51, 52] [47, 48, 49, 53] y0 y → yV y V → yIt y V S → yWd y kw N → yGt y [] → (∀ G, parF V N m s = some G → ∀ f' y', yM b f' ad y' → yK [50, 51, 52] [47, 48, 49, 53] y0 y' → yGt y' G → post 1 f') → (parF V N m s = none → ∀ f' y', yM b f' ad y' → yK [50, 51, 52] [47, 48, 49, 53] y0 y' → yGt y' [] → post 0 f') → w_Mo_parameterOf_10 post (u + 1) (ad 57) (ad kw) (nI N.length) (nI i) f := by
  intro u
  induction u with
  | zero =>
    intro i s n m y f hu hd hn hm hiS h k0 hV hI hN hG hp1 hp0
    have hl := hV.2.2.1
    refine ⟨nI S.length, ⟨_, h.2.2.1, by rw [← hI.2]; rfl⟩, fun _ => ⟨Or.inl rfl, hp0 ?_ f y h k0 hG⟩, fun c => absurd (nI_le (by omega) (by omega)) c⟩
    rw [List.drop_eq_nil_of_le (by omega)] at hd
    cases m with
    | zero => rfl
    | succ m =>
      rw [parF_eq]
      cases n with
      | zero => rw [if_neg (by omega)]
      | succ n =>
        rw [sgF_eq] at hd
        by_cases c : s ≤ V.length
        · rw [if_pos c] at hd; cases hd
        · rw [if_neg c]
  | succ u ih =>
    intro i s n m y f hu hd hn hm hiS h k0 hV hI hN hG hp1 hp0
    have hl := hV.2.2.1
    have bV := hV.2.2.2
    refine ⟨nI S.length, ⟨_, h.2.2.1, by rw [← hI.2]; rfl⟩, fun c => ⟨Or.inl rfl, hp0 ?_ f y h k0 hG⟩, fun c => ?_⟩
    · rw [nI_leI (by omega) (by omega)] at c
      rw [List.drop_eq_nil_of_le (by omega)] at hd
      cases m with
      | zero => rfl
      | succ m =>
        rw [parF_eq]
        cases n with
        | zero => rw [if_neg (by omega)]
        | succ n =>
          rw [sgF_eq] at hd
          by_cases c : s ≤ V.length
          · rw [if_pos c] at hd; cases hd
          · rw [if_neg c]
    · rw [nI_leI (by omega) (by omega)] at c
      -- this item: s .. t
      have hsl : s ≤ V.length := by
        apply Classical.byContradiction
        intro c2
        have : sgF V n s = [] := by
          cases n with
          | zero => rfl
          | succ n => rw [sgF_eq, if_neg c2]
        rw [this] at hd
        have := congrArg List.length hd
        simp only [List.length_drop, List.length_nil] at this
        omega
      obtain ⟨n', rfl⟩ : ∃ n', n = n' + 1 := ⟨n - 1, by omega⟩
      obtain ⟨m', rfl⟩ : ∃ m', m = m' + 1 := ⟨m - 1, by omega⟩
      rw [sgF_eq, if_pos hsl] at hd
      obtain ⟨hi, hSi, hd'⟩ := drop_get hd
      rw [parF_eq, if_pos hsl] at hp1 hp0
      obtain ⟨t, et⟩ : ∃ t, t = fnd 59 V s V.length := ⟨_, rfl⟩
      rw [← et] at hSi hd' hp1 hp0
      have hst : s ≤ t := by rw [et]; exact fnd_ge hsl
      have htl : t ≤ V.length := by rw [et]; exact fnd_le
      obtain ⟨i50, i51⟩ := hI.1 i hi
      rw [hSi] at i50 i51
      obtain ⟨a, ea⟩ : ∃ a, a = tS V s t := ⟨_, rfl⟩
      obtain ⟨e', ee⟩ : ∃ e', e' = tE V s t := ⟨_, rfl⟩
      dsimp only at i50 i51
      rw [← ea] at i50
      rw [← ee] at i51
      obtain ⟨q1, q2, q3⟩ := tSE_le (V := V) hst
      rw [← ea] at q1 q2
      rw [← ee] at q2 q3
      obtain ⟨q, eq⟩ : ∃ q, q = fnd 61 V s t := ⟨_, rfl⟩
      rw [← eq] at hp1 hp0
      have hqa : q = fnd 61 V a t := by rw [eq, ea]; exact fnd_tS _ _ rfl
      have haq : a ≤ q := by rw [hqa]; exact fnd_ge (by omega)
      have hqt : q ≤ t := by rw [eq]; exact fnd_le
      have hblk : ∀ j, e' ≤ j → j < t → isBlk (V.getD j 0) = true := by
        intro j h1 h2
        rw [ee] at h1
        exact trR_blk t j h1 h2
      have hq61 : q < t → V.getD q 0 = 61 := by rw [eq]; exact fnd_is
      have hqe : q < t → q < e' := by
        intro h1
        apply Classical.byContradiction
        intro h2
        have := blk_ne (hblk q (by omega) h1)
        exact this.1 (hq61 h1)
      have v50 : vp_in (nI i) 1510 := vp_in_nI (by omega) (by decide)
      -- the next item
      have nx : ¬ (q < t ∧ nameEq V N s q = true) → ∀ (y1 : yS) (f1 : xhp), yM b f1 ad y1 → yK [] [48, 49] y y1 → w_Mo_parameterOf_135 post (w_Mo_parameterOf_10 post (u + 1)) (ad 57) (ad kw) (nI N.length) (nI i) f1 := by
        intro hn0 y1 f1 h1 k1
        rw [if_neg hn0] at hp1 hp0
        show w_Mo_parameterOf_10 post (u + 1) _ _ _ (nI i + 1) f1
        rw [nI_1]
        exact ih (i + 1) (t + 1) n' m' y1 f1 (by omega) hd' (by omega) (by omega) (by omega) h1 (k0.trans (k1.mono (by simp) (by decide))) (hV.k k1 (by simp) (by decide)) (hI.k k1 (by simp) (by simp) (by decide)) (hN.k k1 (by simp)) (hG.k k1 (by simp) (by decide)) hp1 hp0
      -- where the = is
      have f66 : ∀ p, p = min e' q → w_Mo_parameterOf_66 post (w_Mo_parameterOf_10 post (u + 1)) (ad 57) (ad kw) (nI N.length) (nI i) (nI p) f := by
        intro p ep
        refine ⟨_, ⟨_, h.2.2.1, rfl⟩, _, _, h.ai 51 (t := 0) rfl (by decide) (by decide), v50, ?_⟩
        rw [nI_cl i (by omega), i51]
        refine ⟨fun c1 => ⟨_, ⟨_, h.2.2.1, rfl⟩, _, _, h.ai 50 (t := 0) rfl (by decide) (by decide), v50, h.O, ?_⟩, fun c1 => ?_⟩
        · rw [nI_ltI (by omega) (by omega)] at c1
          have epq : p = q := by omega
          have hqt2 : q < t := by omega
          subst epq
          rw [i50]
          refine y_trim h hV haq (by omega) (fun f7 h7 => ?_)
          have k7 : yK [] [48, 49] y (y.1, y.2.1, va_up (va_up y.2.2.1 48 (nI (tS V a p))) 49 (nI (tE V a p)), y.2.2.2) := by
            refine ⟨fun _ _ => rfl, rfl, fun k hk => ?_, rfl⟩
            simp only [List.mem_cons, List.not_mem_nil, or_false, not_or] at hk
            dsimp only
            rw [zup_ne _ _ hk.2, zup_ne _ _ hk.1]
          obtain ⟨r1, r2, r3⟩ := tSE_le (V := V) haq
          have eS : tS V s p = tS V a p := by
            show skip isBlk V s p = skip isBlk V a p
            rw [ea]; exact skip_mid _ _ rfl hst (by rw [← ea]; exact haq)
          have eE : tE V s p = tE V a p := by unfold tE; rw [eS]
          have hV7 := hV.k k7 (by simp) (by decide)
          refine ⟨_, ⟨_, h7.2.2.1, rfl⟩, nI (tS V a p), ⟨_, h7.2.2.1, rfl⟩, nI (tE V a p), ⟨_, h7.2.2.1, rfl⟩, ?_⟩
          refine y_isWord h7 (ka := 45) rfl (by decide) hV7.1 bV hl hl (hN.k k7 (by simp)) r2 (by omega) ?_
          have enm : (decide (tE V a p - tS V a p = N.length) && hasNm V N (tS V a p)) = nameEq V N s p := by
            unfold nameEq; rw [eS, eE]
          rw [enm]
          refine ⟨fun c2 => ⟨_, ⟨_, h7.2.2.1, rfl⟩, _, _, h7.ai 51 (t := 0) rfl (by decide) (by decide), v50, h7.O, ?_⟩, fun c2 => ?_⟩
          · rw [zb_n0] at c2
            rw [if_pos ⟨hqt2, c2⟩] at hp1
            dsimp only
            rw [i51, nI_1]
            refine y_trim h7 hV7 (by omega) (by omega) (fun f16 h16 => ⟨h16.O, ?_⟩)
            dsimp only at h16
            have k16 : yK [] [48, 49] y (y.1, y.2.1, va_up (va_up (va_up (va_up y.2.2.1 48 (nI (tS V a p))) 49 (nI (tE V a p))) 48 (nI (tS V (p + 1) e'))) 49 (nI (tE V (p + 1) e')), y.2.2.2) := by
              refine ⟨fun _ _ => rfl, rfl, fun k hk => ?_, rfl⟩
              simp only [List.mem_cons, List.not_mem_nil, or_false, not_or] at hk
              dsimp only
              rw [zup_ne _ _ hk.2, zup_ne _ _ hk.1, zup_ne _ _ hk.2, zup_ne _ _ hk.1]
            obtain ⟨x1, x2, x3⟩ := tSE_le (V := V) (s := p + 1) (e := e') (by omega)
            refine y_unquote h16 (hV.k k16 (by simp) (by decide)) x2 (by omega) (by dsimp only; rw [zup_ne _ _ (by decide), zup_self]) (by dsimp only; rw [zup_self]) (fun f' y' h' k' hG' => ⟨Or.inr rfl, hp1 _ rfl f' y' h' (k0.trans ((k16.mono (by simp) (by decide)).trans (k'.mono (by decide) (by decide)))) ?_⟩)
            have := trim_pre (V := V) (i := p + 1) (e := t) (e' := e') (by omega) q3 hblk
            rw [← this]; exact hG'
          · rw [zb_0] at c2
            exact nx (fun w => by rw [c2] at w; exact absurd w.2 (by decide)) _ f7 h7 k7
        · rw [nI_ltI (by omega) (by omega)] at c1
          exact nx (fun w => by have := hqe w.1; omega) y f h (yK.refl y)
      refine ⟨_, ⟨_, h.2.2.1, rfl⟩, _, _, h.ai 50 (t := 0) rfl (by decide) (by decide), v50, (e' - a) + 1, ?_⟩
      rw [nI_cl i (by omega), i50]
      have sc : ∀ (v p : Nat), e' - p ≤ v → a ≤ p → p ≤ e' → fnd 61 V a e' = fnd 61 V p e' → w_Mo_parameterOf_26 post (w_Mo_parameterOf_10 post (u + 1)) (v + 1) (ad 57) (ad kw) (nI N.length) (nI i) (nI p) f := by
        have hq' : fnd 61 V a e' = min e' q := by rw [hqa]; exact fnd_pre q3
        intro v
        induction v with
        | zero =>
          intro p hv hp1' hp2' hfp
          have : p = e' := by omega
          refine ⟨_, ⟨_, h.2.2.1, rfl⟩, _, _, h.ai 51 (t := 0) rfl (by decide) (by decide), v50, ?_⟩
          rw [nI_cl i (by omega), i51]
          refine ⟨fun _ => f66 p ?_, fun c1 => absurd (nI_le (by omega) (by omega)) c1⟩
          rw [show fnd 61 V p e' = e' from fnd_end (by omega)] at hfp
          omega
        | succ v ihv =>
          intro p hv hp1' hp2' hfp
          refine ⟨_, ⟨_, h.2.2.1, rfl⟩, _, _, h.ai 51 (t := 0) rfl (by decide) (by decide), v50, ?_⟩
          rw [nI_cl i (by omega), i51]
          refine ⟨fun c1 => f66 p ?_, fun c1 => ⟨_, ⟨_, h.2.2.1, rfl⟩, _, _, h.ai 45 (t := 3) rfl (by decide) (by decide), ?_, ?_⟩⟩
          · rw [nI_leI (by omega) (by omega)] at c1
            rw [show fnd 61 V p e' = e' from fnd_end (by omega)] at hfp
            omega
          · rw [nI_leI (by omega) (by omega)] at c1
            exact vp_in_nI (by show p < 1500; omega) (by decide)
          · rw [nI_leI (by omega) (by omega)] at c1
            rw [nI_cl p (by omega), hV.1 p (by omega), (sb_ch _ (bV p)).2.2.2.2.2.2.1]
            refine ⟨fun c2 => f66 p ?_, fun c2 => ⟨_, ⟨_, h.2.2.1, rfl⟩, _, _, h.ai 51 (t := 0) rfl (by decide) (by decide), v50, h.O, ?_⟩⟩
            · rw [show fnd 61 V p e' = p from fnd_here (by omega) c2] at hfp
              omega
            · rw [i51]
              refine y_over h hV (by omega) (by omega) ?_
              have ho := ovr_le V (p := p) (e := e') (by omega)
              exact ihv (ovr V p e') (by omega) (by omega) (by omega) (by rw [hfp]; exact fnd_over (by decide) (by omega) c2)
      exact sc (e' - a) a (Nat.le_refl _) (Nat.le_refl _) q2 rfl
theorem sgF_len (V : List Nat) : ∀ n s, (sgF V n s).length ≤ n := by
  intro n
  induction n with
  | zero => intro s; exact Nat.le_refl _
  | succ n ih =>
    intro s
    rw [sgF_eq]
    split
    · simp only [List.length_cons]; have := ih (fnd 59 V s V.length + 1); omega
    · exact Nat.zero_le _
theorem y_parameterOf {y : yS} {f : xhp} (h : yM b f ad y) (hV : yV y V) {kw : Nat} (hkw : kw < 17 ∨ kw = 56) (hN : yWd y kw N) {post : Int32 → xhp → Prop} (hp1 : ∀ G, par V N = some G → ∀ f' y', yM b f' ad y' → yK [50, 51, 52] [47, 48, 49, 53] y y' → yGt y' G → post 1 f') (hp0 : par V N = none → ∀ f' y', yM b f' ad y' → yK [50, 51, 52] [47, 48, 49, 53] y y' → yGt y' [] → post 0 f') : w_Mo_parameterOf post (ad 57) (ad kw) (nI N.length) f := by
  have hl := hV.2.2.1
  refine ⟨h.O, m_ws h rfl (by decide) (by decide) (by decide) (fun f1 h1 => ⟨h1.O, ?_⟩)⟩
  have k1 : yK [50, 51, 52] [47, 48, 49, 53] y (y.1, y.2.1, va_up y.2.2.1 53 0, y.2.2.2) := yK.ws y 0 (by decide)
  have g1 : yGt (y.1, y.2.1, va_up y.2.2.1 53 (0 : Int32), y.2.2.2) [] := ⟨fun i hi => absurd hi (Nat.not_lt_zero _), by dsimp only; rw [zup_self]; rfl, Nat.zero_le _, zB.nil⟩
  refine y_itemize h1 (hV.k k1 (by decide) (by decide)) (fun f2 y2 h2 k2 hI => ⟨(sgs V).length + 1, ?_⟩)
  have k2' : yK [50, 51, 52] [47, 48, 49, 53] y y2 := k1.trans (k2.mono (by decide) (by decide))
  have hSl : (sgs V).length ≤ 1502 := by have := sgF_len V (V.length + 2) 0; unfold sgs; omega
  obtain ⟨s1, s2⟩ := sgs_0 V
  have hd1 : (sgs V).drop 1 = sgF V (V.length + 1) (fnd 59 V 0 V.length + 1) := by
    show (sgF V (V.length + 1 + 1) 0).drop 1 = _
    rw [sgF_eq, if_pos (Nat.zero_le _)]; rfl
  have kN : kw ∉ ([50, 51, 52] : List Nat) := by
    simp only [List.mem_cons, List.not_mem_nil, or_false]
    rcases hkw with q | q <;> omega
  exact y_par_aux hkw hSl (y0 := y) (sgs V).length 1 (fnd 59 V 0 V.length + 1) (V.length + 1) (V.length + 1) y2 f2 (by omega) hd1 (by omega) (by omega) (by omega) h2 k2' (hV.k k2' (by decide) (by decide)) hI (hN.k k2' kN) (g1.k k2 (by decide) (by decide)) hp1 hp0
end YP
