/-! read, entity, field, parameter of the reference -/
section YPv
variable {b : xhp} {ad : Nat → Nat} {f : xhp} {Y P M : List Nat} {R : List eT} {lost : Nat}
theorem yCst.kl {y y' : yS} {as ss : List Nat} (h : yCst y) (hk : yKL as ss y y') (h1 : ∀ k, k < 17 → k ∉ as) : yCst y' := fun k h17 i hi => by rw [hk.1 k (h1 k h17)]; exact h k h17 i hi
theorem y_read (h : yN b ad f Y P M R lost) {post : Int32 → xhp → Prop} (hp : ∀ f', yN b ad f' Y [] P (bldR P).1 (bldR P).2 → post (nI (bldR P).1.length) f') : w_Mo_read post (ad 57) f := by
  obtain ⟨y, rd, h, hc⟩ := h
  have hT := hc.2.2.2.2.2.2.1
  have hl := hT.2.2.1
  have loop : ∀ (n i : Nat) (y1 : yS) (f1 : xhp), i + n = P.length → yM b f1 ad y1 → yK [20] [21] y y1 → y1.2.2.1 21 = nI P.length → (∀ j, j < i → y1.1 20 j = sb (P.getD j 0)) → w_Mo_read_10 post (n + 1) (ad 57) (nI i) f1 := by
    intro n
    induction n with
    | zero =>
      intro i y1 f1 hi h1 k1 e21 hj
      have : i = P.length := by omega
      subst this
      refine ⟨nI P.length, ⟨_, h1.2.2.1, by rw [← e21]; rfl⟩, fun _ => m_ws h1 rfl (by decide) (by decide) (by decide) (fun f3 h3 => ⟨Or.inr rfl, m_ws h3 rfl (by decide) (by decide) (by decide) (fun f5 h5 => ?_)⟩), fun c => absurd (nI_le (Nat.le_refl _) (by omega)) c⟩
      dsimp only at h5
      obtain ⟨y5, ey5⟩ : ∃ y5 : yS, y5 = (y1.1, y1.2.1, va_up (va_up y1.2.2.1 19 0) 22 1, y1.2.2.2) := ⟨_, rfl⟩
      rw [← ey5] at h5
      have k15 : yK [20] [19, 21, 22] y1 y5 := by
        rw [ey5]
        exact (yK.ws y1 _ (by decide)).trans (yK.ws _ _ (by decide))
      have k5 : yK [20] [19, 21, 22] y y5 := (k1.mono (by decide) (by decide)).trans k15
      have e22 : y5.2.2.1 22 = 1 := by rw [ey5]; dsimp only; exact zup_self _ _ _
      have e19 : y5.2.2.1 19 = 0 := by rw [ey5]; dsimp only; rw [zup_ne _ _ (by decide), zup_self]
      have e21' : y5.2.2.1 21 = nI P.length := by rw [ey5]; dsimp only; rw [zup_ne _ _ (by decide), zup_ne _ _ (by decide)]; exact e21
      have hM5 : yMl y5 P := ⟨fun j hj' => by rw [ey5]; exact hj j hj', e21', hl, hT.2.2.2⟩
      have hcst := hc.1.2.2.2.2
      refine ⟨h5.O, y_split h5 hM5 (fun f6 y6 h6 k6 hL6 => ⟨h6.O, ?_⟩)⟩
      have hC6 : yC y6 P (lns P) := ⟨hM5.k k6 (by decide) (by decide), hL6, lns_zL P, lns_zLe P, (hcst.k k5 (by decide)).k k6 (by decide)⟩
      refine y_build h6 hC6 (fun f7 y7 h7 k7 hE7 => ⟨h7.O, ?_⟩)
      have hC7 := hC6.k k7 (by decide) (by decide)
      refine y_findTexts h7 hC7 hE7 (fun f8 y8 h8 k8 hS8 => ⟨nI (bldR P).1.length, ⟨_, h8.2.2.1, by rw [← (hE7.kl k8 (by decide) (by decide)).1]; rfl⟩, hp f8 ⟨y8, true, h8, hC7.kl k8 (by decide) (by decide), hE7.kl k8 (by decide) (by decide), ?_, fun c => (by cases c), fun i hi => ?_, hc.2.2.2.2.2.1, ⟨fun j hj' => absurd hj' (Nat.not_lt_zero _), ?_, Nat.zero_le _, zB.nil⟩, hS8⟩⟩)
      · rw [k8.2 22 (by decide), k7.2.2.1 22 (by decide), k6.2.2.1 22 (by decide), e22]; rfl
      · rw [k8.1 17 (by decide), k7.1 17 (by decide), k6.1 17 (by decide), k5.1 17 (by decide)]; exact hc.2.2.2.2.1 i hi
      · rw [k8.2 19 (by decide), k7.2.2.1 19 (by decide), k6.2.2.1 19 (by decide), e19]; rfl
    | succ n ih =>
      intro i y1 f1 hi h1 k1 e21 hj
      refine ⟨nI P.length, ⟨_, h1.2.2.1, by rw [← e21]; rfl⟩, fun c => absurd c (by rw [nI_leI (by omega) (by omega)]; omega), fun _ => ⟨_, ⟨_, h1.2.2.1, rfl⟩, _, ⟨_, h1.2.2.1, rfl⟩, _, _, h1.ai 18 (t := 3) rfl (by decide) (by decide), vp_in_nI (by show i < 1500; omega) (by decide), ?_⟩⟩
      refine m_wa h1 (k := 20) (t := 3) (j := i) rfl (by decide) (by decide) (v' := sb (P.getD i 0)) ?_ (by show i < 1500; omega) (by omega) (fun f16 h16 => ?_)
      · rw [nI_cl i (by omega), k1.1 18 (by decide), hT.1 i (by omega), (sb_all _ (hT.2.2.2 i)).1]
      · rw [nI_1]
        refine ih (i + 1) _ f16 (by omega) h16 (k1.trans (yK.wa y1 _ (by decide))) e21 (fun j hj' => ?_)
        dsimp only
        rw [zup_self]
        by_cases q : j = i
        · subst q; rw [upd_self]
        · rw [upd_ne _ _ q]; exact hj j (by omega)
  refine ⟨nI P.length, ⟨_, h.2.2.1, by rw [← hT.2.1]; rfl⟩, m_ws h rfl (by decide) (by decide) (by decide) (fun f3 h3 => ⟨P.length + 1, ?_⟩)⟩
  exact loop P.length 0 _ f3 (by omega) h3 (yK.ws y _ (by decide)) (by dsimp only; exact zup_self _ _ _) (fun j hj => absurd hj (Nat.not_lt_zero _))
theorem zfind_e {n i : Nat} {e : Int32} (hz : zfind n e = some i) : e = nI i := by
  unfold zfind at hz
  by_cases c : e < 0
  · rw [if_pos c] at hz; cases hz
  · rw [if_neg c] at hz
    obtain ⟨k, hk, rfl⟩ := nI_of c
    rw [nI_cl k hk] at hz
    by_cases c1 : k < n
    · rw [if_pos c1] at hz; cases hz; rfl
    · rw [if_neg c1] at hz; cases hz
theorem y_place {y : yS} (h : yM b f ad y) (hC : yC y M (lns M)) {l : Nat} (hl : l ≤ (lns M).length) {post : Int32 → xhp → Prop} (hp : post (nI (lf M (lns M) l)) f) : w_Mo_place post (ad 57) (nI l) f := by
  have hM := hC.1.2.2.1
  have hK := hC.2.2.1.1
  refine ⟨nI (lns M).length, ⟨_, h.2.2.1, by rw [← hC.2.1.2]; rfl⟩, fun c => ⟨nI M.length, ⟨_, h.2.2.1, by rw [← hC.1.2.1]; rfl⟩, ?_⟩, fun c => ⟨_, ⟨_, h.2.2.1, rfl⟩, _, _, h.ai 24 (t := 0) rfl (by decide) (by decide), vp_in_nI (by show l < 1501; omega) (by decide), ?_⟩⟩
  · rw [nI_leI (by omega) (by omega)] at c
    unfold lf at hp
    rw [if_neg (by omega)] at hp; exact hp
  · rw [nI_leI (by omega) (by omega)] at c
    rw [lf_in (by omega)] at hp
    rw [nI_cl l (by omega), (hC.2.1.1 l (by omega)).1]; exact hp
theorem y_entity (h : yN b ad f Y P M R lost) {e w : Int32} {post : Int32 → xhp → Prop} (hp : ∀ f', yN b ad f' Y P M R lost → post (sEnt M R e w) f') : w_Mo_entity post (ad 57) e w f := by
  obtain ⟨y, rd, h, hc⟩ := h
  have hE := hc.2.1
  have hC := hc.1
  have h60 := hE.2.2.1
  have hM := hC.1.2.2.1
  have hK := hC.2.2.1.1
  have hp0 := hp f ⟨y, rd, h, hc⟩
  refine ⟨h.O, y_isThere h hE hc.2.2.1 hc.rl ?_⟩
  cases hz : zfind R.length e with
  | none =>
    have e0 : sEnt M R e w = -1 := by unfold sEnt; rw [hz]
    rw [e0] at hp0
    exact ⟨fun c => absurd rfl c, fun _ => hp0⟩
  | some i =>
    have hi := zfind_lt hz
    have ei := zfind_e hz
    have e1 : ∀ v, sEnt M R e v = if v = 0 then nI (tK M (lns M) (R.getD i t0)) else if v = 1 then iI (R.getD i t0).1 else if v = 2 then nI (R.getD i t0).2.1 else if v = 3 then zb (aG M (lns M) (R.getD i t0)) else if v = 4 then nI (lf M (lns M) (R.getD i t0).2.2.1) else if v = 5 then nI (if tB M (lns M) (R.getD i t0) < (R.getD i t0).2.2.2.1 then lf M (lns M) (tB M (lns M) (R.getD i t0)) else M.length) else if v = 6 then nI (tH M (lns M) (R.getD i t0) - (R.getD i t0).2.2.1) else if v = 7 then nI ((R.getD i t0).2.2.2.1 - tB M (lns M) (R.getD i t0)) else if v = 8 then nI (R.countP (fun u => u.1 == i + 1)) else if v = 9 then nI (nfl M (lns M) (R.getD i t0).2.2.1 (tH M (lns M) (R.getD i t0))) else -1 := by intro v; unfold sEnt; rw [hz]
    rw [e1 w] at hp hp0
    clear e1 hz
    subst ei
    have vi : vp_in (nI i) 60 := vp_in_nI (by omega) (by decide)
    have ci := nI_cl i (by omega)
    obtain ⟨ok, _, f28, f29, f30, f31, f32, f33, f34⟩ := hE.2.2.2 i hi
    have hto := ok.2.2.1
    have hB := tB_le M (lns M) ok.2.1
    have hH := tH_le M (lns M) ok.2.1
    have hHP := hd_P (M := M) ok.2.1 ok.2.2.1
    have gt := fun (k : Nat) (ht : ytg k = 0) (h35 : k ≠ 35) => h.ai k ht (by decide) h35
    refine ⟨fun _ => ⟨fun c => ?_, fun c => ?_, fun c => ?_, fun c => ?_, fun c => ?_, fun c => ?_, fun c => ?_, fun c => ?_, fun c => ?_, fun c => ?_, fun c0 c1 c2 c3 c4 c5 c6 c7 c8 c9 => ?_⟩, fun c => absurd c (by simp [zb])⟩
    · subst c
      refine ⟨_, ⟨_, h.2.2.1, rfl⟩, _, _, gt 34 rfl (by decide), vi, ?_⟩
      rw [ci, f34]; exact hp0
    · subst c
      refine ⟨_, ⟨_, h.2.2.1, rfl⟩, _, _, gt 32 rfl (by decide), vi, ?_⟩
      rw [ci, f32]; exact hp0
    · subst c
      refine ⟨_, ⟨_, h.2.2.1, rfl⟩, _, _, gt 33 rfl (by decide), vi, ?_⟩
      rw [ci, f33]; exact hp0
    · subst c
      refine ⟨h.O, y_isHung h hC (hE.yT hi) (fun f' y' h' k' => ?_)⟩
      have hp := hp f' ⟨y', rd, h', hc.kk k'⟩
      rw [if_neg (by decide), if_neg (by decide), if_neg (by decide), if_pos rfl] at hp
      have hp : post (zb (hgH M (lns M) (R.getD i t0).2.2.1 (tH M (lns M) (R.getD i t0)))) f' := hp
      cases q : hgH M (lns M) (R.getD i t0).2.2.1 (tH M (lns M) (R.getD i t0)) with
      | false => rw [q] at hp; exact ⟨fun _ => hp, fun c => absurd rfl c⟩
      | true => rw [q] at hp; exact ⟨fun c => absurd c (by decide), fun _ => hp⟩
    · subst c
      refine ⟨_, ⟨_, h.2.2.1, rfl⟩, _, _, gt 28 rfl (by decide), vi, h.O, ?_⟩
      rw [ci, f28]
      exact y_place h hC (by have := ok.2.1; omega) hp0
    · subst c
      refine ⟨_, ⟨_, h.2.2.1, rfl⟩, _, _, gt 31 rfl (by decide), vi, _, ⟨_, h.2.2.1, rfl⟩, _, _, gt 29 rfl (by decide), vi, ?_⟩
      rw [ci, f31, f29, nI_leI (by omega) (by omega)]
      rw [if_neg (by decide), if_neg (by decide), if_neg (by decide), if_neg (by decide), if_neg (by decide), if_pos rfl] at hp0
      refine ⟨fun c => ⟨nI M.length, ⟨_, h.2.2.1, by rw [← hC.1.2.1]; rfl⟩, ?_⟩, fun c => ⟨_, ⟨_, h.2.2.1, rfl⟩, _, ⟨_, h.2.2.1, rfl⟩, _, _, gt 31 rfl (by decide), vi, _, _, gt 24 rfl (by decide), ?_⟩⟩
      · rw [if_neg (by omega)] at hp0; exact hp0
      · rw [if_pos (by omega), lf_in (by omega)] at hp0
        rw [f31, nI_cl (tB M (lns M) (R.getD i t0)) (by omega), (hC.2.1.1 _ (by omega)).1]
        exact ⟨vp_in_nI (by show _ < 1501; omega) (by decide), hp0⟩
    · subst c
      refine ⟨_, ⟨_, h.2.2.1, rfl⟩, _, _, gt 30 rfl (by decide), vi, _, ⟨_, h.2.2.1, rfl⟩, _, _, gt 28 rfl (by decide), vi, ?_⟩
      rw [ci, f30, f28, nI_sub' hH.1]; exact hp0
    · subst c
      refine ⟨_, ⟨_, h.2.2.1, rfl⟩, _, _, gt 29 rfl (by decide), vi, _, ⟨_, h.2.2.1, rfl⟩, _, _, gt 31 rfl (by decide), vi, ?_⟩
      rw [ci, f29, f31, nI_sub' hB.2]; exact hp0
    · subst c
      exact ⟨h.O, y_children h hE hi hp0⟩
    · subst c
      exact ⟨h.O, y_fields h hC.1 hC.2.1 hC.2.2.1 (by omega) hHP.1 hHP.2.1 f28 f30 hp0⟩
    · rw [if_neg c0, if_neg c1, if_neg c2, if_neg c3, if_neg c4, if_neg c5, if_neg c6, if_neg c7, if_neg c8, if_neg c9] at hp0
      exact hp0
theorem y_field (h : yN b ad f Y P M R lost) {e : Int32} {post : Int32 → xhp → Prop} (hp : ∀ f', yN b ad f' Y ((sField M P R e).getD []) M R lost → post (oLen (sField M P R e)) f') : w_Mo_field post (ad 57) e f := by
  obtain ⟨y, rd, h, hc⟩ := h
  have h60 := hc.2.1.2.2.1
  refine ⟨h.O, y_ask h hc.2.2.2.2.2.2.1 (fun f1 y1 h1 k1 hW1 e19 => ⟨h1.O, ?_⟩)⟩
  have hT1 : yTp y1 [] := ⟨fun j hj => absurd hj (Nat.not_lt_zero _), e19, Nat.zero_le _, zB.nil⟩
  have hc1 : yNc y1 rd Y [] M R lost := hc.up k1 (by decide) (by decide) (fun i hi => by rw [k1.1 17 (by decide)]; exact hc.2.2.2.2.1 i hi) hc.2.2.2.2.2.1 hT1
  refine y_isThere h1 hc1.2.1 hc1.2.2.1 hc1.rl ?_
  cases hz : zfind R.length e with
  | none =>
    have e0 : sField M P R e = none := by unfold sField; rw [hz]
    rw [e0] at hp
    exact ⟨fun _ => hp f1 ⟨y1, rd, h1, hc1⟩, fun c => absurd rfl c⟩
  | some i =>
    have hi := zfind_lt hz
    have ei := zfind_e hz
    have e0 : sField M P R e = fieldV M (lns M) P (R.getD i t0).2.2.1 (tH M (lns M) (R.getD i t0)) := by unfold sField; rw [hz]
    rw [e0] at hp
    clear e0 hz
    subst ei
    obtain ⟨ok, _, f28, f29, f30, _⟩ := hc1.2.1.2.2.2 i hi
    have hHP := hd_P (M := M) ok.2.1 ok.2.2.1
    have hC1 := hc1.1
    refine ⟨fun c => absurd c (by simp [zb]), fun _ => ⟨_, ⟨_, h1.2.2.1, rfl⟩, h1.O, y_find h1 hC1.1 hC1.2.1 hC1.2.2.1 (by omega) hHP.1 hHP.2.1 hHP.2.2 f28 f30 hW1 (by decide) (fun f6 y6 h6 k6 hV6 => ?_)⟩⟩
    have hc6 := hc1.kk (k6.mono (by decide) (by decide))
    have hp : ∀ f', yN b ad f' Y ((fieldV M (lns M) P (R.getD i t0).2.2.1 (hd M (lns M) (R.getD i t0).2.2.1 (R.getD i t0).2.2.2.1)).getD []) M R lost → post (oLen (fieldV M (lns M) P (R.getD i t0).2.2.1 (hd M (lns M) (R.getD i t0).2.2.1 (R.getD i t0).2.2.2.1))) f' := hp
    generalize fieldV M (lns M) P (R.getD i t0).2.2.1 (hd M (lns M) (R.getD i t0).2.2.1 (R.getD i t0).2.2.2.1) = o at hp hV6
    cases o with
    | none => exact ⟨fun c => absurd rfl c, fun _ => hp f6 ⟨y6, rd, h6, hc6⟩⟩
    | some V =>
      have hV6 : yV y6 V := hV6
      have hp : ∀ f', yN b ad f' Y V M R lost → post (nI V.length) f' := hp
      have hVl := hV6.2.2.1
      have loop : ∀ (n j : Nat) (y2 : yS) (f2 : xhp), j + n = V.length → yM b f2 ad y2 → yK [18] [19] y6 y2 → (∀ i, i < j → y2.1 18 i = sb (V.getD i 0)) → w_Mo_field_30 post (n + 1) (ad 57) (nI j) f2 := by
        intro n
        induction n with
        | zero =>
          intro j y2 f2 hj h2 k2 hz
          have : j = V.length := by omega
          subst this
          have hV2 := hV6.k k2 (by decide) (by decide)
          refine ⟨nI V.length, ⟨_, h2.2.2.1, by rw [← hV2.2.1]; rfl⟩, fun _ => ⟨nI V.length, ⟨_, h2.2.2.1, by rw [← hV2.2.1]; rfl⟩, m_ws h2 rfl (by decide) (by decide) (by decide) (fun f4 h4 => ⟨_, ⟨_, h4.2.2.1, rfl⟩, ?_⟩)⟩, fun c => absurd (nI_le (Nat.le_refl _) (by omega)) c⟩
          have k4 : yK [18] [19] y6 (y2.1, y2.2.1, va_up y2.2.2.1 19 (nI V.length), y2.2.2.2) := k2.trans (yK.ws y2 _ (by decide))
          dsimp only
          rw [zup_self]
          exact hp f4 ⟨_, rd, h4, hc6.up k4 (by decide) (by decide) (fun i hi => by rw [k4.1 17 (by decide)]; exact hc6.2.2.2.2.1 i hi) hc6.2.2.2.2.2.1 ⟨hz, by dsimp only; exact zup_self _ _ _, hVl, hV6.2.2.2⟩⟩
        | succ n ih =>
          intro j y2 f2 hj h2 k2 hz
          have hV2 := hV6.k k2 (by decide) (by decide)
          refine ⟨nI V.length, ⟨_, h2.2.2.1, by rw [← hV2.2.1]; rfl⟩, fun c => absurd c (by rw [nI_leI (by omega) (by omega)]; omega), fun _ => ⟨_, ⟨_, h2.2.2.1, rfl⟩, _, ⟨_, h2.2.2.1, rfl⟩, _, _, h2.ai 45 (t := 3) rfl (by decide) (by decide), vp_in_nI (by show j < 1500; omega) (by decide), ?_⟩⟩
          refine m_wa h2 (k := 18) (t := 3) (j := j) rfl (by decide) (by decide) (v' := sb (V.getD j 0)) ?_ (by show j < 1500; omega) (by omega) (fun f12 h12 => ?_)
          · rw [nI_cl j (by omega), hV2.1 j (by omega), (sb_all _ (hV6.2.2.2 j)).1]
          · rw [nI_1]
            refine ih (j + 1) _ f12 (by omega) h12 (k2.trans (yK.wa y2 _ (by decide))) (fun i hi => ?_)
            dsimp only
            rw [zup_self]
            by_cases q : i = j
            · subst q; rw [upd_self]
            · rw [upd_ne _ _ q]; exact hz i (by omega)
      exact ⟨fun _ => ⟨V.length + 1, loop V.length 0 y6 f6 (by omega) h6 (yK.refl y6) (fun i hi => absurd hi (Nat.not_lt_zero _))⟩, fun c => absurd c (by simp [zb])⟩
theorem y_parameter (h : yN b ad f Y P M R lost) {e : Int32} {post : Int32 → xhp → Prop} (hp : ∀ f', yN b ad f' Y ((sParam M P R e).getD []) M R lost → post (oLen (sParam M P R e)) f') : w_Mo_parameter post (ad 57) e f := by
  obtain ⟨y, rd, h, hc⟩ := h
  have h60 := hc.2.1.2.2.1
  refine ⟨h.O, y_ask h hc.2.2.2.2.2.2.1 (fun f1 y1 h1 k1 hW1 e19 => ⟨h1.O, ?_⟩)⟩
  have hT1 : yTp y1 [] := ⟨fun j hj => absurd hj (Nat.not_lt_zero _), e19, Nat.zero_le _, zB.nil⟩
  have hc1 : yNc y1 rd Y [] M R lost := hc.up k1 (by decide) (by decide) (fun i hi => by rw [k1.1 17 (by decide)]; exact hc.2.2.2.2.1 i hi) hc.2.2.2.2.2.1 hT1
  refine y_isThere h1 hc1.2.1 hc1.2.2.1 hc1.rl ?_
  cases hz : zfind R.length e with
  | none =>
    have e0 : sParam M P R e = none := by unfold sParam; rw [hz]
    rw [e0] at hp
    exact ⟨fun _ => hp f1 ⟨y1, rd, h1, hc1⟩, fun c => absurd rfl c⟩
  | some i =>
    have hi := zfind_lt hz
    have ei := zfind_e hz
    have e0 : sParam M P R e = (fieldV M (lns M) (xbN 0) (R.getD i t0).2.2.1 (hd M (lns M) (R.getD i t0).2.2.1 (R.getD i t0).2.2.2.1)).bind (fun V => par V P) := by unfold sParam; rw [hz]; rfl
    rw [e0] at hp
    clear e0 hz
    subst ei
    obtain ⟨ok, _, f28, f29, f30, _⟩ := hc1.2.1.2.2.2 i hi
    have hHP := hd_P (M := M) ok.2.1 ok.2.2.1
    have hC1 := hc1.1
    refine ⟨fun c => absurd c (by simp [zb]), fun _ => ⟨_, ⟨_, h1.2.2.1, rfl⟩, _, ⟨_, h1.2.2.1, rfl⟩, _, _, _, h1.ai 0 (t := 0) rfl (by decide) (by decide), by decide, h1.O, y_find h1 hC1.1 hC1.2.1 hC1.2.2.1 (by omega) hHP.1 hHP.2.1 hHP.2.2 f28 f30 (hC1.2.2.2.2.w (k := 0) (by decide)) (by decide) (fun f6 y6 h6 k6 hV6 => ?_)⟩⟩
    have hc6 := hc1.kk (k6.mono (by decide) (by decide))
    have hW6 := hW1.k k6 (by decide)
    have hV6 : yV y6 ((fieldV M (lns M) (xbN 0) (R.getD i t0).2.2.1 (hd M (lns M) (R.getD i t0).2.2.1 (R.getD i t0).2.2.2.1)).getD []) := hV6
    show (zb (fieldV M (lns M) (xbN 0) (R.getD i t0).2.2.1 (hd M (lns M) (R.getD i t0).2.2.1 (R.getD i t0).2.2.2.1)).isSome = 0 → _) ∧ (¬ zb (fieldV M (lns M) (xbN 0) (R.getD i t0).2.2.1 (hd M (lns M) (R.getD i t0).2.2.1 (R.getD i t0).2.2.2.1)).isSome = 0 → _)
    generalize fieldV M (lns M) (xbN 0) (R.getD i t0).2.2.1 (hd M (lns M) (R.getD i t0).2.2.1 (R.getD i t0).2.2.2.1) = o at hp hV6
    cases o with
    | none => exact ⟨fun _ => hp f6 ⟨y6, rd, h6, hc6⟩, fun c => absurd rfl c⟩
    | some V =>
      have hV6 : yV y6 V := hV6
      have hp : ∀ f', yN b ad f' Y ((par V P).getD []) M R lost → post (oLen (par V P)) f' := hp
      refine ⟨fun c => absurd c (by simp [zb]), fun _ => ⟨_, ⟨_, h6.2.2.1, rfl⟩, h6.O, y_parameterOf h6 hV6 (Or.inr rfl) hW6 (fun G hG f14 y14 h14 k14 g14 => ⟨fun _ => ⟨G.length + 1, ?_⟩, fun c => absurd c (by decide)⟩) (fun hG f14 y14 h14 k14 _ => ⟨fun c => absurd rfl c, fun _ => ?_⟩)⟩⟩
      · have hc14 := hc6.kk (k14.mono (by decide) (by decide))
        rw [hG] at hp
        have hp : ∀ f', yN b ad f' Y G M R lost → post (nI G.length) f' := hp
        have hGl := g14.2.2.1
        have loop : ∀ (n j : Nat) (y2 : yS) (f2 : xhp), j + n = G.length → yM b f2 ad y2 → yK [18] [19] y14 y2 → (∀ i, i < j → y2.1 18 i = sb (G.getD i 0)) → w_Mo_parameter_46 post (n + 1) (ad 57) (nI j) f2 := by
          intro n
          induction n with
          | zero =>
            intro j y2 f2 hj h2 k2 hz
            have : j = G.length := by omega
            subst this
            have hV2 := g14.k k2 (by decide) (by decide)
            refine ⟨nI G.length, ⟨_, h2.2.2.1, by rw [← hV2.2.1]; rfl⟩, fun _ => ⟨nI G.length, ⟨_, h2.2.2.1, by rw [← hV2.2.1]; rfl⟩, m_ws h2 rfl (by decide) (by decide) (by decide) (fun f4 h4 => ⟨_, ⟨_, h4.2.2.1, rfl⟩, ?_⟩)⟩, fun c => absurd (nI_le (Nat.le_refl _) (by omega)) c⟩
            have k4 : yK [18] [19] y14 (y2.1, y2.2.1, va_up y2.2.2.1 19 (nI G.length), y2.2.2.2) := k2.trans (yK.ws y2 _ (by decide))
            dsimp only
            rw [zup_self]
            exact hp f4 ⟨_, rd, h4, hc14.up k4 (by decide) (by decide) (fun i hi => by rw [k4.1 17 (by decide)]; exact hc14.2.2.2.2.1 i hi) hc14.2.2.2.2.2.1 ⟨hz, by dsimp only; exact zup_self _ _ _, hGl, g14.2.2.2⟩⟩
          | succ n ih =>
            intro j y2 f2 hj h2 k2 hz
            have hV2 := g14.k k2 (by decide) (by decide)
            refine ⟨nI G.length, ⟨_, h2.2.2.1, by rw [← hV2.2.1]; rfl⟩, fun c => absurd c (by rw [nI_leI (by omega) (by omega)]; omega), fun _ => ⟨_, ⟨_, h2.2.2.1, rfl⟩, _, ⟨_, h2.2.2.1, rfl⟩, _, _, h2.ai 52 (t := 3) rfl (by decide) (by decide), vp_in_nI (by show j < 1500; omega) (by decide), ?_⟩⟩
            refine m_wa h2 (k := 18) (t := 3) (j := j) rfl (by decide) (by decide) (v' := sb (G.getD j 0)) ?_ (by show j < 1500; omega) (by omega) (fun f12 h12 => ?_)
            · rw [nI_cl j (by omega), hV2.1 j (by omega), (sb_all _ (g14.2.2.2 j)).1]
            · rw [nI_1]
              refine ih (j + 1) _ f12 (by omega) h12 (k2.trans (yK.wa y2 _ (by decide))) (fun i hi => ?_)
              dsimp only
              rw [zup_self]
              by_cases q : i = j
              · subst q; rw [upd_self]
              · rw [upd_ne _ _ q]; exact hz i (by omega)
        exact loop G.length 0 y14 f14 (by omega) h14 (yK.refl y14) (fun i hi => absurd hi (Nat.not_lt_zero _))
      · rw [hG] at hp
        exact hp f14 ⟨y14, rd, h14, hc6.kk (k14.mono (by decide) (by decide))⟩
end YPv
