/-! the class's constructor as a whole -/
section NC3
variable {b f : xhp} {ao : Nat → Nat} {sk : Nat → Nat}
theorem z_last {p0 : Nat} (h : zPs b f ao 107 14) (hp0 : ao 0 = p0) {post : xhp → Prop} (hp : ∀ f' ad, ad 0 = p0 → zN b ad f' [] [] [] [] 0 → post f') : ∃ fs15 : List Value, f p0 = some (.inr (4, fs15)) ∧ 14 < fs15.length ∧ ∀ f16 : xhp, f16 = xup f p0 (.inr (4, fs15.set 14 (.int 0))) → ∃ fs17 : List Value, f16 p0 = some (.inr (4, fs17)) ∧ 15 < fs17.length ∧ ∀ f18 : xhp, f18 = xup f16 p0 (.inr (4, fs17.set 15 (.int 0))) → post f18 := by
  obtain ⟨hS0, ⟨fs, l16, m0, mf⟩, hF⟩ := h
  refine h_set hS0 (t := 0) (by decide) m0 (by omega) hp0 (fun f1 h1 m1 w1 => h_set h1 (t := 0) (by decide) m1 (by rw [List.length_set]; omega) hp0 (fun f2 h2 m2 w2 => hp f2 (fun k => ao (zpi k)) hp0 (zPs.fin h2 ?_ ?_)))
  · exact hF.ext 0 (Or.inl rfl) (fun t ht => ⟨rfl, fun t0_ _ => (w2 t ht t0_).trans (w1 t ht t0_)⟩) (fun j _ c => Or.inl c) (fun c => Or.inl c) (fun c => Or.inl c) (fun i _ c => Or.inl c) (fun c => Or.inl ⟨by decide, c, fun _ _ c => c⟩) (fun c => Or.inl ⟨by decide, c, fun _ _ c => c⟩)
  · rw [m2]
    congr 2
    congr 1
    apply List.ext_getElem?
    intro i
    by_cases c : i < 14
    · rw [List.getElem?_set_ne (by omega), List.getElem?_set_ne (by omega), (mf i c).2]
      have : i = 0 ∨ i = 1 ∨ i = 2 ∨ i = 3 ∨ i = 4 ∨ i = 5 ∨ i = 6 ∨ i = 7 ∨ i = 8 ∨ i = 9 ∨ i = 10 ∨ i = 11 ∨ i = 12 ∨ i = 13 := by omega
      rcases this with q | q | q | q | q | q | q | q | q | q | q | q | q | q <;> (subst q; rfl)
    · by_cases c1 : i = 14
      · subst c1
        rw [List.getElem?_set_ne (by omega), List.getElem?_set_self (by omega)]; rfl
      · by_cases c2 : i = 15
        · subst c2
          rw [List.getElem?_set_self (by rw [List.length_set]; omega)]; rfl
        · rw [List.getElem?_eq_none (by rw [List.length_set, List.length_set]; omega), List.getElem?_eq_none (by show 16 ≤ i; omega)]
/-- the eight rows of boundaries, and what is behind them -/
theorem z_154 {p0 : Nat} {post : xhp → Prop} (hp : ∀ f' ad, ad 0 = p0 → zN b ad f' [] [] [] [] 0 → post f') : ∀ (m i nc ns : Nat) (f : xhp) (ao : Nat → Nat), i + m = 8 → zPs b f ao (87 + 2 * i) 12 → ao 0 = p0 → nc + 2 * m ≤ 190 → ns + 72 * m ≤ 19000 → w_Mp_init_154 sk post 200 20000 (m + 1) nc ns p0 (nI i) f := by
  intro m
  induction m with
  | zero =>
    intro i nc ns f ao hi h e0 hc hs
    have : i = 8 := by omega
    subst this
    refine ⟨fun _ => ⟨by omega, by omega, fun q1 f2 hq e2 => ⟨1, 60, by omega, by omega, ?_⟩⟩, fun c => absurd (by decide) c⟩
    refine z_srow h (by decide) (j := 10) (cap := 60) (by decide) rfl rfl rfl rfl (by decide) rfl (by omega) (by omega) (by decide +kernel) e0 hq e2 (fun f7 ao7 h7 e7 => ⟨by omega, by omega, fun q8 f9 hq8 e9 => ⟨1, 60, by omega, by omega, ?_⟩⟩)
    exact z_srow h7 (by decide) (j := 11) (cap := 60) (by decide) rfl rfl rfl rfl (by decide) rfl (by omega) (by omega) (by decide +kernel) e7 hq8 e9 (fun f14 ao14 h14 e14 => z_last h14 e14 hp)
  | succ m ih =>
    intro i nc ns f ao hi h e0 hc hs
    have i8 : i < 8 := by omega
    obtain ⟨hS0, ⟨fs, l16, m0, mf⟩, hF⟩ := h
    have f11 := (mf 11 (by decide)).2
    have h0 : zPs b f ao (87 + 2 * i) 12 := ⟨hS0, ⟨fs, l16, m0, mf⟩, hF⟩
    refine ⟨fun c => absurd c (by rw [show (8 : Int32) = nI 8 from rfl, nI_leI (by omega) (by omega)]; omega), fun _ => ⟨ao 86, ⟨fs, by rw [← e0]; exact m0, f11⟩, by omega, by omega, fun q f2 hq e2 => ⟨1, 70, by omega, by omega, ?_⟩⟩⟩
    refine n_row hS0 hq e2 (cap := 70) (by decide) rfl (fun f3 ao3 h3 r3 en k3 => ?_)
    obtain ⟨g, g1, g2⟩ := hF.2.2.2.2.2 (by omega)
    have e86 := r3 86 (by omega)
    have g3 : f3 (ao3 86) = some (.inl (1, 8, xbR g)) := by rw [e86.1, e86.2]; exact g1
    refine ⟨1, 2, 8, g, by rw [← e86.1]; exact g3, Or.inl ⟨rfl, rfl⟩, ⟨_, by rw [← en]; exact k3.2.1⟩, vp_in_nI i8 (by decide), fun f4 e4 => ?_⟩
    rw [nI_cl i (by omega), ← e86.1] at e4
    have w := h3.wr (t := 86) (by omega) (.inl (1, 8, xbR (va_up g i (some q))))
    rw [← e4] at w
    rw [nI_1]
    have e03 : ao3 0 = p0 := by rw [(r3 0 (by omega)).1]; exact e0
    refine ih (i + 1) _ _ f4 ao3 (by omega) ⟨?_, ⟨fs, l16, ?_, fun j hj => ?_⟩, ?_⟩ e03 (by omega) (by omega)
    · rw [show 87 + 2 * (i + 1) = 87 + 2 * i + 2 by omega]; exact w.1
    · rw [w.2 0 (by omega) (by decide), (r3 0 (by omega)).1, (r3 0 (by omega)).2]; exact m0
    · obtain ⟨c1, c2⟩ := mf j hj
      exact ⟨by omega, by rw [(r3 _ c1).1]; exact c2⟩
    · refine hF.ext 86 (Or.inr (Or.inr rfl)) (fun t ht => ⟨(r3 t ht).1, fun t0_ t1 => ?_⟩) (fun j' hj' c => ?_) (fun c => Or.inl (by omega)) (fun c => Or.inl (by omega)) (fun j hj c => Or.inl (by omega)) (fun c => Or.inl ⟨by decide, by omega, fun j hj c => by omega⟩) (fun c => Or.inr ⟨va_up g i (some q), ?_, fun j hj c => ?_⟩)
      · have := w.2 t (by omega) t1
        rw [(r3 t ht).1] at this
        rw [this]; exact (r3 t ht).2
      · by_cases c1 : zr j' + 1 < 87 + 2 * i
        · exact Or.inl c1
        · right
          have key : ∀ j', j' < 20 → ∀ i, i < 8 → (decide (zr j' + 1 < 87 + 2 * i) || (!(decide (zr j' + 1 < 87 + 2 * (i + 1))) || (decide (j' = 12 + i) && (decide (zr j' = 87 + 2 * i) && (decide (zcap j' = 70) && (zLn j').isEmpty))))) = true := by decide +kernel
          have := key j' hj' i i8
          rw [decide_eq_false c1, decide_eq_true c, Bool.not_true, Bool.false_or, Bool.false_or, Bool.and_eq_true, Bool.and_eq_true, Bool.and_eq_true, decide_eq_true_eq, decide_eq_true_eq, decide_eq_true_eq, List.isEmpty_iff] at this
          obtain ⟨_, u2, u3, u4⟩ := this
          rw [u2, u3, u4]
          obtain ⟨k1, k2, gg, k4, k5⟩ := k3
          exact ⟨k1, by rw [w.2 _ (by omega) (by omega)]; exact k2, gg, by rw [w.2 _ (by omega) (by omega)]; exact k4, k5⟩
      · rw [e4, xup_self]
      · by_cases u : j = i
        · subst u; rw [zup_self, en]
        · rw [zup_ne _ _ u, g2 j hj (by omega), (r3 _ (by omega)).1]
/-- the sixty entities -/
theorem z_118 {p0 : Nat} {post : xhp → Prop} (hp : ∀ f' ad, ad 0 = p0 → zN b ad f' [] [] [] [] 0 → post f') : ∀ (m i nc ns : Nat) (f : xhp) (ao : Nat → Nat), i + m = 60 → zPs b f ao (26 + i) 11 → ao 0 = p0 → nc + m ≤ 150 → ns + 17 * m ≤ 15000 → w_Mp_init_118 sk post 200 20000 (m + 1) nc ns p0 (nI i) f := by
  intro m
  induction m with
  | zero =>
    intro i nc ns f ao hi h e0 hc hs
    have : i = 60 := by omega
    subst this
    refine ⟨fun _ => ⟨8, by decide, rfl, by omega, by omega, fun q f2 hq e2 => ?_⟩, fun c => absurd (by decide) c⟩
    subst e2
    obtain ⟨h1, r1⟩ := h.1.al hq (.inl (1, 8, xbR (fun _ => none)))
    have e86 : va_up ao (26 + 60) q 86 = q := zup_self _ _ _
    have b1 : (xup f q (.inl (1, 8, xbR (fun _ => none)))) (va_up ao (26 + 60) q 86) = some (.inl (1, 8, xbR (fun _ => none))) := by rw [e86, xup_self]
    generalize xup f q (.inl (1, 8, xbR (fun _ => none))) = f1 at *
    generalize va_up ao (26 + 60) q = ao1 at *
    refine zPs.store h (by decide) h1 r1 (by decide) (by decide) (by decide) ?_ e0 e86 (fun f5 h5 e5 => ⟨9, z_154 hp 8 0 _ _ f5 ao1 (by decide) h5 e5 (by omega) (by omega)⟩)
    refine h.2.2.ext 0 (Or.inl rfl) (fun t ht => ⟨(r1 t ht).1, fun _ _ => (r1 t ht).2⟩) (fun j' hj' c => ?_) (fun c => Or.inl (by omega)) (fun c => Or.inl (by omega)) (fun j hj c => Or.inl (by omega)) (fun c => Or.inl ⟨by decide, by omega, fun j hj c => by omega⟩) (fun c => Or.inr ⟨_, b1, fun j hj c => by omega⟩)
    left
    have key : ∀ j', j' < 20 → (decide (zr j' + 1 < 86) || !(decide (zr j' + 1 < 87))) = true := by decide +kernel
    have := key j' hj'
    rw [decide_eq_true (show zr j' + 1 < 87 from c), Bool.not_true, Bool.or_false, decide_eq_true_eq] at this
    exact this
  | succ m ih =>
    intro i nc ns f ao hi h e0 hc hs
    have i60 : i < 60 := by omega
    obtain ⟨hS0, ⟨fs, l16, m0, mf⟩, hF⟩ := h
    have f10 := (mf 10 (by decide)).2
    refine ⟨fun c => absurd c (by rw [show (60 : Int32) = nI 60 from rfl, nI_leI (by omega) (by omega)]; omega), fun _ => ⟨ao 25, ⟨fs, by rw [← e0]; exact m0, f10⟩, by omega, by omega, fun q f2 hq e2 => ?_⟩⟩
    subst e2
    obtain ⟨h3, r3⟩ := hS0.al hq (.inr (0, dv_En))
    have en : va_up ao (26 + i) q (26 + i) = q := zup_self _ _ _
    have b1 : (xup f q (.inr (0, dv_En))) (va_up ao (26 + i) q (26 + i)) = some (.inr (0, dv_En)) := by rw [en, xup_self]
    show ∃ (t13 t14 n10 : Nat) (g11 : Nat → Option Nat), _
    generalize xup f q (.inr (0, dv_En)) = f3 at *
    generalize va_up ao (26 + i) q = ao3 at *
    obtain ⟨g, g1, g2⟩ := hF.2.2.2.2.1 (by omega)
    have e25 := r3 25 (by omega)
    have g3 : f3 (ao3 25) = some (.inl (2, 60, xbR g)) := by rw [e25.1, e25.2]; exact g1
    refine ⟨2, 0, 60, g, by rw [← e25.1]; exact g3, Or.inr ⟨rfl, rfl⟩, ⟨_, by rw [← en]; exact b1⟩, vp_in_nI i60 (by decide), fun f4 e4 => ?_⟩
    rw [nI_cl i (by omega), ← e25.1] at e4
    have w := h3.wr (t := 25) (by omega) (.inl (2, 60, xbR (va_up g i (some q))))
    rw [← e4] at w
    rw [nI_1]
    have e03 : ao3 0 = p0 := by rw [(r3 0 (by omega)).1]; exact e0
    refine ih (i + 1) _ _ f4 ao3 (by omega) ⟨w.1, ⟨fs, l16, ?_, fun j hj => ?_⟩, ?_⟩ e03 (by omega) (by omega)
    · rw [w.2 0 (by omega) (by decide), (r3 0 (by omega)).1, (r3 0 (by omega)).2]; exact m0
    · obtain ⟨c1, c2⟩ := mf j hj
      exact ⟨by omega, by rw [(r3 _ c1).1]; exact c2⟩
    · refine hF.ext 25 (Or.inr (Or.inl rfl)) (fun t ht => ⟨(r3 t ht).1, fun t0_ t1 => ?_⟩) (fun j' hj' c => ?_) (fun c => Or.inl (by omega)) (fun c => Or.inl (by omega)) (fun j hj c => ?_) (fun c => Or.inr ⟨va_up g i (some q), ?_, fun j hj c => ?_⟩) (fun c => absurd c (by omega))
      · have := w.2 t (by omega) t1
        rw [(r3 t ht).1] at this
        rw [this]; exact (r3 t ht).2
      · left
        have key : ∀ j', j' < 20 → (decide (zr j' + 1 < 26) || !(decide (zr j' + 1 < 87))) = true := by decide +kernel
        have := key j' hj'
        rw [decide_eq_true (show zr j' + 1 < 87 by omega), Bool.not_true, Bool.or_false, decide_eq_true_eq] at this
        omega
      · by_cases u : j = i
        · subst u
          right
          rw [w.2 _ (by omega) (by omega)]; exact b1
        · left; omega
      · rw [e4, xup_self]
      · by_cases u : j = i
        · subst u; rw [zup_self, en]
        · rw [zup_ne _ _ u, g2 j hj (by omega), (r3 _ (by omega)).1]
theorem m_init {p0 : Nat} {f0 : xhp} (hf : f0 p0 = none) (hf0 : f = xup f0 p0 (.inr (4, dv_Mp))) {post : xhp → Prop} (hp : ∀ f' ad, ad 0 = p0 → zN f0 ad f' [] [] [] [] 0 → post f') : w_Mp_init sk post 200 20000 p0 f := by
  have hS0 : hS f0 f0 (fun _ => p0) 0 := ⟨fun i j hi => absurd hi (Nat.not_lt_zero _), fun a _ => rfl, fun t ht => absurd ht (Nat.not_lt_zero _)⟩
  obtain ⟨h1, _⟩ := hS0.al hf (.inr (4, dv_Mp))
  rw [← hf0] at h1
  have e0 : va_up (fun _ => p0) 0 p0 0 = p0 := zup_self _ _ _
  have zr1 : ∀ j, j < 20 → 1 ≤ zr j := by decide +kernel
  have P1 : zPs f0 f (va_up (fun _ => p0) 0 p0) 1 0 := ⟨h1, ⟨dv_Mp, rfl, by rw [e0, hf0, xup_self], fun i hi => absurd hi (Nat.not_lt_zero _)⟩, fun j hj c => absurd c (by have := zr1 j hj; omega), fun c => absurd c (by decide), fun c => absurd c (by decide), fun i _ c => absurd c (by omega), fun c => absurd c (by decide), fun c => absurd c (by decide)⟩
  generalize va_up (fun _ => p0) 0 p0 = ao at *
  clear hf0 h1
  refine ⟨by decide, by decide, fun q1 f2 hq e2 => ⟨1, 20, by decide, by decide, ?_⟩⟩
  refine z_srow P1 (by decide) (j := 0) (cap := 20) (by decide) rfl rfl rfl rfl (by decide) rfl (by omega) (by omega) (by decide +kernel) e0 hq e2 (fun f7 ao7 h7 e7 => ⟨by decide, by decide, fun q8 f9 hq8 e9 => ⟨1, 1500, by decide, by decide, ?_⟩⟩)
  refine z_srow h7 (by decide) (j := 1) (cap := 1500) (by decide) rfl rfl rfl rfl (by decide) rfl (by omega) (by omega) (by decide +kernel) e7 hq8 e9 (fun f14 ao14 h14 e14 => ⟨by decide, by decide, fun q15 f16 hq15 e16 => ⟨4, 4502, by decide, by decide, ?_⟩⟩)
  refine nw_Ma h14.1 hq15 e16 (fun f17 ao17 h17 r17 en17 k17 m17 s17 t17 => ?_)
  refine zPs.store h14 (by decide) h17 r17 (by decide) (by decide) (by decide) ?_ e14 en17 (fun f21 h21 e21 => ⟨by decide, by decide, fun q22 f23 hq22 e23 => ⟨2, 1502, by decide, by decide, ?_⟩⟩)
  · refine h14.2.2.ext 0 (Or.inl rfl) (fun t ht => ⟨(r17 t ht).1, fun _ _ => (r17 t ht).2⟩) (fun j' hj' c => ?_) (fun c => Or.inr ⟨m17, s17, t17⟩) (fun c => absurd c (by decide)) (fun i hi c => absurd c (by omega)) (fun c => absurd c (by decide)) (fun c => absurd c (by decide))
    have key : ∀ j', j' < 20 → (!(decide (zr j' + 1 < 10)) || (decide (zr j' + 1 < 5) || decide (j' = 2))) = true := by decide +kernel
    have := key j' hj'
    rw [decide_eq_true (show zr j' + 1 < 10 from c), Bool.not_true, Bool.false_or, Bool.or_eq_true, decide_eq_true_eq, decide_eq_true_eq] at this
    rcases this with w | w
    · exact Or.inl w
    · subst w; exact Or.inr k17
  refine nw_Va h21.1 hq22 e23 (fun f24 ao24 h24 r24 en24 k24 m24 => ?_)
  refine zPs.store h21 (by decide) h24 r24 (by decide) (by decide) (by decide) ?_ e21 en24 (fun f28 h28 e28 => ⟨2, 2 + (xbN 0).length, by decide, by decide, ?_⟩)
  · refine h21.2.2.ext 0 (Or.inl rfl) (fun t ht => ⟨(r24 t ht).1, fun _ _ => (r24 t ht).2⟩) (fun j' hj' c => ?_) (fun c => Or.inl (by decide)) (fun c => Or.inr m24) (fun i hi c => absurd c (by omega)) (fun c => absurd c (by decide)) (fun c => absurd c (by decide))
    have key : ∀ j', j' < 20 → (!(decide (zr j' + 1 < 13)) || (decide (zr j' + 1 < 10) || decide (j' = 3))) = true := by decide +kernel
    have := key j' hj'
    rw [decide_eq_true (show zr j' + 1 < 13 from c), Bool.not_true, Bool.false_or, Bool.or_eq_true, decide_eq_true_eq, decide_eq_true_eq] at this
    rcases this with w | w
    · exact Or.inl w
    · subst w; exact Or.inr k24
  refine z_sname h28 (by decide) (j := 0) (by decide) rfl rfl (by decide +kernel) (by decide) (by decide) (by decide) (by decide +kernel) e28 (fun f34 ao34 h34 e34 => ⟨2, 2 + (xbN 1).length, by decide, by decide, ?_⟩)
  refine z_sname h34 (by decide) (j := 1) (by decide) rfl rfl (by decide +kernel) (by decide) (by decide) (by decide) (by decide +kernel) e34 (fun f40 ao40 h40 e40 => ⟨2, 2 + (xbN 2).length, by decide, by decide, ?_⟩)
  refine z_sname h40 (by decide) (j := 2) (by decide) rfl rfl (by decide +kernel) (by decide) (by decide) (by decide) (by decide +kernel) e40 (fun f46 ao46 h46 e46 => ⟨2, 2 + (xbN 3).length, by decide, by decide, ?_⟩)
  refine z_sname h46 (by decide) (j := 3) (by decide) rfl rfl (by decide +kernel) (by decide) (by decide) (by decide) (by decide +kernel) e46 (fun f52 ao52 h52 e52 => ⟨2, 2 + (xbN 4).length, by decide, by decide, ?_⟩)
  refine z_sname h52 (by decide) (j := 4) (by decide) rfl rfl (by decide +kernel) (by decide) (by decide) (by decide) (by decide +kernel) e52 (fun f58 ao58 h58 e58 => ⟨2, 2 + (xbN 5).length, by decide, by decide, ?_⟩)
  refine z_sname h58 (by decide) (j := 5) (by decide) rfl rfl (by decide +kernel) (by decide) (by decide) (by decide) (by decide +kernel) e58 (fun f64 ao64 h64 e64 => ⟨60, by decide, rfl, by decide, by decide, fun q65 f66 hq65 e66 => ?_⟩)
  subst e66
  obtain ⟨h1, r1⟩ := h64.1.al hq65 (.inl (2, 60, xbR (fun _ => none)))
  have e25 : va_up ao64 25 q65 25 = q65 := zup_self _ _ _
  have b1 : (xup f64 q65 (.inl (2, 60, xbR (fun _ => none)))) (va_up ao64 25 q65 25) = some (.inl (2, 60, xbR (fun _ => none))) := by rw [e25, xup_self]
  have h1 : hS f0 (xup f64 q65 (.inl (2, 60, xbR (fun _ => none)))) (va_up ao64 25 q65) 26 := h1
  have r1 : zfr f64 ao64 25 (xup f64 q65 (.inl (2, 60, xbR (fun _ => none)))) (va_up ao64 25 q65) := r1
  generalize xup f64 q65 (.inl (2, 60, xbR (fun _ => none))) = f1 at *
  generalize va_up ao64 25 q65 = ao1 at *
  refine zPs.store h64 (by decide) h1 r1 (by decide) (by decide) (by decide) ?_ e64 e25 (fun f69 h69 e69 => ⟨61, z_118 hp 60 0 _ _ f69 ao1 (by decide) h69 e69 (by decide) (by decide)⟩)
  refine h64.2.2.ext 0 (Or.inl rfl) (fun t ht => ⟨(r1 t ht).1, fun _ _ => (r1 t ht).2⟩) (fun j' hj' c => ?_) (fun c => Or.inl (by decide)) (fun c => Or.inl (by decide)) (fun j hj c => absurd c (by omega)) (fun c => Or.inr ⟨_, b1, fun j hj c => absurd c (by omega)⟩) (fun c => absurd c (by decide))
  left
  have key : ∀ j', j' < 20 → (decide (zr j' + 1 < 25) || !(decide (zr j' + 1 < 26))) = true := by decide +kernel
  have := key j' hj'
  rw [decide_eq_true (show zr j' + 1 < 26 from c), Bool.not_true, Bool.or_false, decide_eq_true_eq] at this
  exact this
end NC3
