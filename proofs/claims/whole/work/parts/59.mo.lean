/-! look -/
theorem m_wa' {b f : xhp} {ad : Nat → Nat} {y : yS} (h : yM b f ad y) {k t : Nat} (ht : ytg k = t) (h9 : t ≠ 9) (h35 : k ≠ 35) {j : Nat} {v v' : Int32} (hv : v = v') (hj : j < yln k) (hj2 : j < 2 ^ 31) {Q : xhp → Prop} (hp : ∀ f2, yM b f2 ad (va_up y.1 k (upd (y.1 k) j v'), y.2) → Q f2) : ∃ (n : Nat) (g : Nat → Int32), xB f (ad k) t n (xbI g) ∧ vp_in (nI j) n ∧ ∀ f2 : xhp, f2 = xup f (ad k) (.inl (t, n, xbI (upd g j v))) → Q f2 := by
  have := m_wa h ht h9 h35 hv hj hj2 hp
  rw [nI_cl j hj2] at this
  exact this
theorem chP_len {M : List Nat} {K : List (Nat × Nat)} (hL : zL M K) {e : Nat} : ∀ (S : List (Nat × Nat)) (a : Nat), chP M K e a S → S.length = 0 ∨ a + 4 * (S.length - 1) ≤ M.length + 1 := by
  intro S
  induction S with
  | nil => intro a _; exact Or.inl rfl
  | cons p S ih =>
    intro a h
    obtain ⟨h1, h2, h3, h4⟩ := h
    have q1 := pos_le hL p.1
    have q2 := pos_le hL p.2
    have q3 := pos_mono hL h2
    right
    simp only [List.length_cons]
    rcases ih _ h4 with q | q
    · omega
    · omega
section YLk
variable {b : xhp} {ad : Nat → Nat} {M : List Nat} {K : List (Nat × Nat)} {y : yS} {f : xhp}
theorem y_look (h : yM b f ad y) (hC : yC y M K) {e : Nat} {t : eT} (he : e < 60) (hfr : t.2.2.1 ≤ t.2.2.2.1) (hto : t.2.2.2.1 ≤ K.length) (e28 : y.1 28 e = nI t.2.2.1) (e29 : y.1 29 e = nI t.2.2.2.1) (hd8 : t.2.1 ≤ 8) (e33 : y.1 33 e = nI t.2.1) (pc : (y.1 32 e = -1 ∧ t.2.2.2.2 = false) ∨ ∃ p fr' h' kp, p < 60 ∧ p ≠ e ∧ y.1 32 e = nI p ∧ y.1 28 p = nI fr' ∧ y.1 30 p = nI h' ∧ hdP M K fr' h' ∧ kp ≤ 2 ∧ y.1 34 p = nI kp ∧ t.2.2.2.2 = (decide (kp = 1) && isW (itm (ctV M K fr' h')) (xbN 12))) {Q : List eT} (hQ : yQ y Q) (hQ4 : Q.length + (kids M K t e).length ≤ 420) {post : xhp → Prop} (hp : ∀ f' y', yM b f' ad y' → yK [30, 31, 34, 39, 40, 41, 43, 44, 45, 50, 51, 52, 54] [38, 42, 46, 47, 48, 49, 53, 55] y y' → y'.1 30 = upd (y.1 30) e (nI (tH M K t)) → y'.1 31 = upd (y.1 31) e (nI (tB M K t)) → y'.1 34 = upd (y.1 34) e (nI (tK M K t)) → yQ y' (Q ++ (kids M K t e).reverse) → post f') : w_Mo_look post (ad 57) (nI e) f := by
  have hM2 := hC.1.2.2.1
  have hKl : K.length ≤ 1500 := Nat.le_trans hC.2.2.1.1 hM2
  have ve : vp_in (nI e) 60 := vp_in_nI he (by decide)
  have hB := tB_le M K hfr
  refine ⟨h.O, y_findHead h hC.1 hC.2.1 hC.2.2.1 hC.2.2.2.1 he hfr hto e28 e29 (fun f1 h1 => ⟨_, ⟨_, h1.2.2.1, rfl⟩, m_wa h1 (k := 34) (t := 0) rfl (by decide) (by decide) rfl he (by omega) (fun f5 h5 => ?_)⟩)⟩
  obtain ⟨y2, ey2⟩ : ∃ y2 : yS, y2 = (va_up (va_up (va_up y.1 30 (upd (y.1 30) e (nI (tH M K t)))) 31 (upd (y.1 31) e (nI (tB M K t)))) 34 (upd (y.1 34) e 0), y.2) := ⟨_, rfl⟩
  have h2 : yM b f5 ad y2 := by
    rw [ey2]
    dsimp only at h5
    rw [zup_ne _ _ (show 34 ≠ 31 by decide), zup_ne _ _ (show 34 ≠ 30 by decide)] at h5
    exact h5
  clear h5
  have k2 : yK [30, 31, 34, 39, 40, 41, 43, 44, 45, 50, 51, 52, 54] [38, 42, 46, 47, 48, 49, 53, 55] y y2 := by
    rw [ey2]
    refine ⟨fun j hj => ?_, rfl, fun _ _ => rfl, rfl⟩
    simp only [List.mem_cons, List.not_mem_nil, or_false, not_or] at hj
    dsimp only
    rw [zup_ne _ _ hj.2.2.1, zup_ne _ _ hj.2.1, zup_ne _ _ hj.1]
  have q30 : y2.1 30 = upd (y.1 30) e (nI (tH M K t)) := by rw [ey2]; rfl
  have q31 : y2.1 31 = upd (y.1 31) e (nI (tB M K t)) := by rw [ey2]; rfl
  have q34 : y2.1 34 = upd (y.1 34) e 0 := by rw [ey2]; rfl
  have hC2 := hC.k k2 (by decide) (by decide)
  have hQ2 : yQ y2 Q := by rw [ey2]; exact hQ
  have hT : yT y2 M K e t.2.2.1 (tH M K t) t.2.2.2.2 := by
    refine ⟨he, by rw [k2.1 28 (by decide)]; exact e28, by rw [q30, upd_self], hd_P hfr hto, ?_⟩
    rw [k2.1 28 (by decide), k2.1 32 (by decide), q30, q34]
    rcases pc with q | ⟨p, fr', h', kp, p1, p2, p3, p4, p5, p6, p7, p8, p9⟩
    · exact Or.inl q
    · exact Or.inr ⟨p, fr', h', kp, p1, p3, p4, by rw [upd_ne _ _ p2]; exact p5, p6, p7, by rw [upd_ne _ _ p2]; exact p8, p9⟩
  have eK := kdH_eq M K t.2.2.1 (tH M K t) t.2.1 t.2.2.2.2
  have eK' : tK M K t = if t.2.1 < 8 then (if muH M K t.2.2.1 (tH M K t) t.2.2.2.2 = true then 1 else if ecH M K t.2.2.1 (tH M K t) t.2.2.2.2 = true then 2 else 0) else 0 := eK
  clear eK
  -- a LEAF
  have leaf : tK M K t = 0 → ∀ (y3 : yS) (f3 : xhp), yM b f3 ad y3 → yK [45, 50, 51, 52, 54] [46, 47, 48, 49, 53, 55] y2 y3 → post f3 := by
    intro ek y3 f3 h3 k3
    refine hp f3 y3 h3 (k2.trans (k3.mono (by decide) (by decide))) (by rw [k3.1 30 (by decide)]; exact q30) (by rw [k3.1 31 (by decide)]; exact q31) (by rw [k3.1 34 (by decide), ek]; exact q34) ?_
    rw [show kids M K t e = [] by unfold kids; rw [if_neg (by omega), if_neg (by omega)], List.reverse_nil, List.append_nil]
    exact hQ2.k k3 (by decide) (by decide) (by decide) (by decide)
  refine ⟨_, ⟨_, h2.2.2.1, rfl⟩, _, _, h2.ai 33 (t := 0) rfl (by decide) (by decide), ve, ?_⟩
  rw [nI_cl e (by omega), k2.1 33 (by decide), e33, show (8 : Int32) = nI 8 from rfl, nI_ltI (by omega) (by omega)]
  refine ⟨fun c => ⟨h2.O, y_isMulti h2 hC2 hT (fun f9 y9 h9 k9 hmk => ⟨fun c1 => ⟨h9.O, ?_⟩, fun c1 => ⟨_, ⟨_, h9.2.2.1, rfl⟩, ?_⟩⟩)⟩, fun c => leaf (by rw [eK', if_neg c]) y2 f5 h2 (yK.refl y2)⟩
  · rw [zb_0] at c1
    rw [if_pos c, if_neg (by rw [c1]; decide)] at eK'
    refine y_isEnclosed h9 (hC2.k k9 (by decide) (by decide)) (hT.k k9 (by decide)) (fun f11 y11 h11 k11 => ⟨fun c2 => ?_, fun c2 => ⟨_, ⟨_, h11.2.2.1, rfl⟩, m_wa' h11 (k := 34) (t := 0) rfl (by decide) (by decide) rfl he (by omega) (fun f16 h16 => ⟨_, ⟨_, h16.2.2.1, rfl⟩, _, _, h16.ai 31 (t := 0) rfl (by decide) (by decide), ve, _, ⟨_, h16.2.2.1, rfl⟩, _, _, h16.ai 29 (t := 0) rfl (by decide) (by decide), ve, h16.O, ?_⟩)⟩⟩)
    · rw [zb_0] at c2
      rw [if_neg (by rw [c2]; decide)] at eK'
      exact leaf eK' y11 f11 h11 (k9.trans (k11.mono (by decide) (by decide)))
    · rw [zb_n0] at c2
      rw [if_pos c2] at eK'
      have k11' : yK [45, 50, 51, 52, 54] [46, 47, 48, 49, 53, 55] y2 y11 := k9.trans (k11.mono (by decide) (by decide))
      have ekids : kids M K t e = [kid M K t e (tB M K t, t.2.2.2.1)] := by unfold kids; rw [if_neg (by omega), if_pos eK']
      rw [ekids] at hQ4 hp
      dsimp only
      rw [zup_ne _ _ (show 31 ≠ 34 by decide), zup_ne _ _ (show 29 ≠ 34 by decide), k11'.1 31 (by decide), k11'.1 29 (by decide), q31, upd_self, k2.1 29 (by decide), e29]
      have k16 : yK [30, 31, 34, 39, 40, 41, 43, 44, 45, 50, 51, 52, 54] [38, 42, 46, 47, 48, 49, 53, 55] y11 (va_up y11.1 34 (upd (y11.1 34) e 2), y11.2) := yK.wa y11 _ (by decide)
      have hQ16 : yQ (va_up y11.1 34 (upd (y11.1 34) e 2), y11.2) Q := (hQ2.k k11' (by decide) (by decide) (by decide) (by decide)).k (yK.wa y11 _ (List.mem_singleton.mpr rfl) : yK [34] [] y11 _) (by decide) (by decide) (by decide) (by decide)
      refine y_push h16 hQ16 (by simp at hQ4; omega) (t := kid M K t e (tB M K t, t.2.2.2.1)) (fun f' y' h' k' hQ' => hp f' y' h' ((k2.trans (k11'.mono (by decide) (by decide))).trans (k16.trans (k'.mono (by decide) (by decide)))) ?_ ?_ ?_ ?_)
      · rw [k'.1 30 (by decide)]; dsimp only; rw [zup_ne _ _ (by decide), k11'.1 30 (by decide)]; exact q30
      · rw [k'.1 31 (by decide)]; dsimp only; rw [zup_ne _ _ (by decide), k11'.1 31 (by decide)]; exact q31
      · rw [k'.1 34 (by decide)]; dsimp only; rw [zup_self, k11'.1 34 (by decide), q34, upd_upd, eK']; rfl
      · exact hQ'
  · rw [zb_n0] at c1
    rw [if_pos c, if_pos c1] at eK'
    have ekids : kids M K t e = (prt M K (tN M K t) t.2.2.2.1 (t.2.2.2.1 - tB M K t) (tB M K t) none).map (kid M K t e) := by unfold kids; rw [if_pos eK']
    rw [ekids] at hQ4 hp
    have hmk' := hmk c1
    have hB1 : 1 ≤ (tN M K t).length := by
      unfold muH at c1
      rw [Bool.and_eq_true, decide_eq_true_eq] at c1
      exact c1.2.1
    refine m_wa' h9 (k := 34) (t := 0) rfl (by decide) (by decide) rfl he (by omega) (fun f27 h27 => ⟨h27.O, ?_⟩)
    obtain ⟨y3, ey3⟩ : ∃ y3 : yS, y3 = (va_up y9.1 34 (upd (y9.1 34) e 1), y9.2) := ⟨_, rfl⟩
    rw [← ey3] at h27
    have k3 : yK [34] [] y9 y3 := by rw [ey3]; exact yK.wa y9 _ (by decide)
    have k93 : yK [34, 45, 50, 51, 52, 54] [46, 47, 48, 49, 53, 55] y2 y3 := (k9.mono (by decide) (by decide)).trans (k3.mono (by decide) (by decide))
    refine y_findParts h27 (hC2.k k93 (by decide) (by decide)).1 (hC2.k k93 (by decide) (by decide)).2.1 hC.2.2.1 (hmk'.k k3 (by decide) (by decide)) hB1 he hB.2 hto (by rw [k93.1 29 (by decide), k2.1 29 (by decide)]; exact e29) (by rw [k93.1 31 (by decide), q31, upd_self]) (fun f28 y28 h28 k28 hPt => ?_)
    have hl : (prt M K (tN M K t) t.2.2.2.1 (t.2.2.2.1 - tB M K t) (tB M K t) none).length < 400 := by
      have hc := prt_ch hC.2.2.1 hB1 (M := M) (K := K) (e := t.2.2.2.1) hto (t.2.2.2.1 - tB M K t) (tB M K t) none 0 rfl hB.2 (fun c hc => by cases hc) (fun _ => Nat.zero_le _)
      rcases chP_len hC.2.2.1 _ _ hc with q | q <;> omega
    change yPt y28 (prt M K (tN M K t) t.2.2.2.1 (t.2.2.2.1 - tB M K t) (tB M K t) none) at hPt
    refine ⟨nI (prt M K (tN M K t) t.2.2.2.1 (t.2.2.2.1 - tB M K t) (tB M K t) none).length, ⟨_, h28.2.2.1, by rw [← hPt.2]; rfl⟩, (prt M K (tN M K t) t.2.2.2.1 (t.2.2.2.1 - tB M K t) (tB M K t) none).length + 1, ?_⟩
    have eI : nI (prt M K (tN M K t) t.2.2.2.1 (t.2.2.2.1 - tB M K t) (tB M K t) none).length - 1 = iI (prt M K (tN M K t) t.2.2.2.1 (t.2.2.2.1 - tB M K t) (tB M K t) none).length := by rw [← iI_pred, Int32.sub_eq_add_neg]
    rw [eI]
    have hQ28 : yQ y28 Q := (hQ2.k k93 (by decide) (by decide) (by decide) (by decide)).k k28 (by decide) (by decide) (by decide) (by decide)
    refine y_look51 (M := M) (K := K) (t := t) he _ _ Q y28 f28 (Nat.le_refl _) hl (by simpa using hQ4) h28 hPt hQ28 (fun f' y' h' k' hQ' => hp f' y' h' ((k2.trans (k93.mono (by decide) (by decide))).trans ((k28.mono (by decide) (by decide)).trans (k'.mono (by decide) (by decide)))) ?_ ?_ ?_ ?_)
    · rw [k'.1 30 (by decide), k28.1 30 (by decide), k93.1 30 (by decide)]; exact q30
    · rw [k'.1 31 (by decide), k28.1 31 (by decide), k93.1 31 (by decide)]; exact q31
    · rw [k'.1 34 (by decide), k28.1 34 (by decide), ey3]; dsimp only; rw [zup_self, k9.1 34 (by decide), q34, upd_upd, eK']; rfl
    · rw [List.take_length] at hQ'
      exact hQ'
end YLk
