/-! build -/
theorem gd_app_lt {Q : List eT} {t : eT} {i : Nat} (h : i < Q.length) : (Q ++ [t]).getD i t0 = Q.getD i t0 := app_lt h
theorem kids_in {M : List Nat} {K : List (Nat × Nat)} (hL : zL M K) {t : eT} {me : Nat} (h1 : t.2.2.1 ≤ t.2.2.2.1) (h2 : t.2.2.2.1 ≤ K.length) : ∀ u ∈ kids M K t me, u.2.2.1 ≤ u.2.2.2.1 ∧ u.2.2.2.1 ≤ K.length ∧ tK M K t ≠ 0 := by
  intro u hu
  have hc : chT M K 0 (kids M K t me ++ []) := chT_kids hL (a := 0) ⟨Nat.zero_le _, h1, h2, trivial⟩
  rw [List.append_nil] at hc
  have all : ∀ (Q : List eT) (a : Nat), chT M K a Q → ∀ u ∈ Q, u.2.2.1 ≤ u.2.2.2.1 ∧ u.2.2.2.1 ≤ K.length := by
    intro Q
    induction Q with
    | nil => intro a _ u hu; cases hu
    | cons v Q ih =>
      intro a h u hu
      rcases List.mem_cons.mp hu with e | e
      · subst e; exact ⟨h.2.1, h.2.2.1⟩
      · exact ih _ h.2.2.2 u e
  have := all _ _ hc u hu
  refine ⟨this.1, this.2, fun hk => ?_⟩
  unfold kids at hu
  rw [if_neg (by omega), if_neg (by omega)] at hu
  cases hu
theorem tK_dp {M : List Nat} {K : List (Nat × Nat)} {t : eT} (h : tK M K t ≠ 0) : t.2.1 < 8 := by
  unfold tK kdH at h
  by_cases c : t.2.1 < 8
  · exact c
  · rw [if_neg c] at h; exact absurd rfl h
section YBd
variable {b : xhp} {ad : Nat → Nat} {M : List Nat} {K : List (Nat × Nat)}
theorem y_build_aux {post : xhp → Prop} : ∀ (u : Nat) (Q R : List eT) (lost : Nat) (y : yS) (f : xhp), (60 - R.length) * 421 + Q.length ≤ u → yM b f ad y → yC y M K → yEn y M K R lost → yQ y Q → chT M K 0 Q.reverse → (∀ t ∈ Q, tOK M K R R.length t ∧ t.2.1 ≤ 8) → (R.length = 0 → Q.length ≤ 1) → (∀ f' y', yM b f' ad y' → yK [28, 29, 30, 31, 32, 33, 34, 39, 40, 41, 43, 44, 45, 50, 51, 52, 54] [26, 27, 38, 42, 46, 47, 48, 49, 53, 55] y y' → yEn y' M K (stk M K Q.reverse (R, lost)).1 (stk M K Q.reverse (R, lost)).2 → post f') → w_Mo_build_25 post (u + 1) (ad 57) f := by
  intro u
  induction u with
  | zero =>
    intro Q R lost y f hu h hC hE hQ hch hok h01 hp
    have hq : Q.length = 0 := by omega
    have : Q = [] := List.length_eq_zero_iff.mp hq
    subst this
    refine ⟨nI 0, ⟨_, h.2.2.1, by rw [show nI 0 = nI ([] : List eT).length from rfl, ← hQ.2]; rfl⟩, fun _ => hp f y h (yK.refl y) hE, fun c => absurd (by decide) c⟩
  | succ u ih =>
    intro Q R lost y f hu h hC hE hQ hch hok h01 hp
    rcases List.eq_nil_or_concat Q with e | ⟨Q', t, e⟩
    · subst e
      refine ⟨nI 0, ⟨_, h.2.2.1, by rw [show nI 0 = nI ([] : List eT).length from rfl, ← hQ.2]; rfl⟩, fun _ => hp f y h (yK.refl y) hE, fun c => absurd (by decide) c⟩
    · rw [List.concat_eq_append] at e
      subst e
      have hM2 := hC.1.2.2.1
      have hL := hC.2.2.1
      have h60 := hE.2.2.1
      have hKl : K.length ≤ 1500 := Nat.le_trans hL.1 hM2
      have hrev : (Q' ++ [t]).reverse = t :: Q'.reverse := by simp
      rw [hrev] at hch hp
      have hql : (Q' ++ [t]).length = Q'.length + 1 := by simp
      have hQl : Q'.length < 400 := by
        rcases chT_len hL _ _ hch with q | q
        · simp at q
        · simp only [List.length_cons, List.length_reverse] at q; omega
      obtain ⟨tok, td8⟩ := hok t (by simp)
      rw [stk_pop td8] at hp
      have v38 : xV f (ad 57) 5 38 (.int (nI (Q'.length + 1))) := ⟨_, h.2.2.1, by rw [← hql, ← hQ.2]; rfl⟩
      refine ⟨nI (Q'.length + 1), v38, fun c => absurd c (by rw [show (0 : Int32) = nI 0 from rfl, nI_leI (by omega) (by omega)]; omega), fun _ => ⟨nI (Q'.length + 1), v38, m_ws h rfl (by decide) (by decide) (by decide) (fun f4 h4 => ?_)⟩⟩
      rw [show (1 : Int32) = nI 1 from rfl, nI_sub' (by omega), Nat.add_sub_cancel] at h4
      obtain ⟨y4, ey4⟩ : ∃ y4 : yS, y4 = (y.1, y.2.1, va_up y.2.2.1 38 (nI Q'.length), y.2.2.2) := ⟨_, rfl⟩
      rw [← ey4] at h4
      have k4 : yK [28, 29, 30, 31, 32, 33, 34, 39, 40, 41, 43, 44, 45, 50, 51, 52, 54] [26, 27, 38, 42, 46, 47, 48, 49, 53, 55] y y4 := by rw [ey4]; exact yK.ws y _ (by decide)
      have hQ4 : yQ y4 Q' := by
        refine ⟨fun i hi => ?_, by rw [ey4]; dsimp only; rw [zup_self]⟩
        have := hQ.1 i (by omega)
        rw [gd_app_lt hi] at this
        rw [ey4]; exact this
      have hE4 : yEn y4 M K R lost := by rw [ey4]; exact hE
      have hC4 : yC y4 M K := hC.k k4 (by decide) (by decide)
      have top := hQ.1 Q'.length (by omega)
      rw [app_eq] at top
      have top4 : y4.1 39 Q'.length = nI t.2.2.1 ∧ y4.1 40 Q'.length = nI t.2.2.2.1 ∧ y4.1 41 Q'.length = iI t.1 := by rw [ey4]; exact top
      have v26 : xV f4 (ad 57) 5 26 (.int (nI R.length)) := ⟨_, h4.2.2.1, by rw [← hE4.1]; rfl⟩
      have hch' : chT M K 0 Q'.reverse := hch.2.2.2.le (Nat.zero_le _)
      have e60 : nI R.length = (60 : Int32) ↔ R.length = 60 := nI_eq (b := 60) (by omega) (by omega)
      refine ⟨nI R.length, v26, fun c => ?_, fun c => ⟨nI lost, ⟨_, h4.2.2.1, by rw [← hE4.2.1]; rfl⟩, m_ws h4 rfl (by decide) (by decide) (by decide) (fun f5 h5 => ?_)⟩⟩
      · rw [e60] at c
        have c60 : R.length < 60 := by omega
        rw [if_pos c60] at hp
        have vR : vp_in (nI R.length) 60 := vp_in_nI c60 (by decide)
        have vQ : vp_in (nI Q'.length) 420 := vp_in_nI (by omega) (by decide)
        refine ⟨nI R.length, v26, nI R.length, v26, m_ws h4 rfl (by decide) (by decide) (by decide) (fun f9 h9 => ?_)⟩
        rw [nI_1] at h9
        obtain ⟨y9, ey9⟩ : ∃ y9 : yS, y9 = (y4.1, y4.2.1, va_up y4.2.2.1 26 (nI (R.length + 1)), y4.2.2.2) := ⟨_, rfl⟩
        rw [← ey9] at h9
        have a9 : y9.1 = y4.1 := by rw [ey9]
        have s38 : y9.2.2.1 38 = nI Q'.length := by rw [ey9]; dsimp only; rw [zup_ne _ _ (by decide)]; exact hQ4.2
        refine ⟨_, ⟨_, h9.2.2.1, rfl⟩, _, ⟨_, h9.2.2.1, rfl⟩, nI Q'.length, ⟨_, h9.2.2.1, by rw [← s38]; rfl⟩, _, _, h9.ai 39 (t := 0) rfl (by decide) (by decide), vQ, ?_⟩
        refine m_wa h9 (k := 28) (t := 0) rfl (by decide) (by decide) (v' := nI t.2.2.1) (by rw [nI_cl Q'.length (by omega), a9]; exact top4.1) c60 (by omega) (fun f17 h17 => ?_)
        refine ⟨_, ⟨_, h17.2.2.1, rfl⟩, _, ⟨_, h17.2.2.1, rfl⟩, nI Q'.length, ⟨_, h17.2.2.1, by rw [← s38]; rfl⟩, _, _, h17.ai 40 (t := 0) rfl (by decide) (by decide), vQ, ?_⟩
        refine m_wa h17 (k := 29) (t := 0) rfl (by decide) (by decide) (v' := nI t.2.2.2.1) (by dsimp only; rw [nI_cl Q'.length (by omega), zup_ne _ _ (by decide), a9]; exact top4.2.1) c60 (by omega) (fun f25 h25 => ?_)
        refine ⟨_, ⟨_, h25.2.2.1, rfl⟩, _, ⟨_, h25.2.2.1, rfl⟩, nI Q'.length, ⟨_, h25.2.2.1, by rw [← s38]; rfl⟩, _, _, h25.ai 41 (t := 0) rfl (by decide) (by decide), vQ, ?_⟩
        refine m_wa h25 (k := 32) (t := 0) rfl (by decide) (by decide) (v' := iI t.1) (by dsimp only; rw [nI_cl Q'.length (by omega), zup_ne _ _ (by decide), zup_ne _ _ (by decide), a9]; exact top4.2.2) c60 (by omega) (fun f33 h33 => ?_)
        dsimp only at h33
        rw [zup_ne _ _ (show 32 ≠ 29 by decide), zup_ne _ _ (show 32 ≠ 28 by decide), zup_ne _ _ (show 29 ≠ 28 by decide), a9] at h33
        obtain ⟨y3, ey3⟩ : ∃ y3 : yS, y3 = (va_up (va_up (va_up y4.1 28 (upd (y4.1 28) R.length (nI t.2.2.1))) 29 (upd (y4.1 29) R.length (nI t.2.2.2.1))) 32 (upd (y4.1 32) R.length (iI t.1)), y9.2) := ⟨_, rfl⟩
        rw [← ey3] at h33
        have q28 : y3.1 28 = upd (y4.1 28) R.length (nI t.2.2.1) := by rw [ey3]; rfl
        have q29 : y3.1 29 = upd (y4.1 29) R.length (nI t.2.2.2.1) := by rw [ey3]; rfl
        have q32 : y3.1 32 = upd (y4.1 32) R.length (iI t.1) := by rw [ey3]; rfl
        have k3 : yK [28, 29, 30, 31, 32, 33, 34, 39, 40, 41, 43, 44, 45, 50, 51, 52, 54] [26, 27, 38, 42, 46, 47, 48, 49, 53, 55] y4 y3 := by
          rw [ey3, ey9]
          refine ⟨fun j hj => ?_, rfl, fun j hj => ?_, rfl⟩
          · simp only [List.mem_cons, List.not_mem_nil, or_false, not_or] at hj
            dsimp only
            rw [zup_ne _ _ hj.2.2.2.2.1, zup_ne _ _ hj.2.1, zup_ne _ _ hj.1]
          · simp only [List.mem_cons, List.not_mem_nil, or_false, not_or] at hj
            dsimp only
            rw [zup_ne _ _ hj.1]
        have r3 : ∀ j, j ≠ 28 → j ≠ 29 → j ≠ 32 → y3.1 j = y4.1 j := fun j n1 n2 n3 => by rw [ey3]; dsimp only; rw [zup_ne _ _ n3, zup_ne _ _ n2, zup_ne _ _ n1]
        have pc := hE4.pc tok (Nat.le_refl _)
        -- from the depth on
        have go : ∀ s0, s0 = nI t.2.1 → w_Mo_build_156 post (w_Mo_build_25 post (u + 1)) (ad 57) (nI R.length) s0 (nI R.length) (ad 33) f33 := by
          intro s0 es0
          refine m_wa h33 (k := 33) (t := 0) rfl (by decide) (by decide) es0 c60 (by omega) (fun f3 h3 => ⟨h3.O, ?_⟩)
          obtain ⟨y5, ey5⟩ : ∃ y5 : yS, y5 = (va_up y3.1 33 (upd (y3.1 33) R.length (nI t.2.1)), y3.2) := ⟨_, rfl⟩
          rw [← ey5] at h3
          have k5 : yK [28, 29, 30, 31, 32, 33, 34, 39, 40, 41, 43, 44, 45, 50, 51, 52, 54] [26, 27, 38, 42, 46, 47, 48, 49, 53, 55] y4 y5 := k3.trans (by rw [ey5]; exact yK.wa y3 _ (by decide))
          have r5 : ∀ j, j ≠ 33 → y5.1 j = y3.1 j := fun j n => by rw [ey5]; exact zup_ne _ _ n
          have q33 : y5.1 33 = upd (y4.1 33) R.length (nI t.2.1) := by rw [ey5]; dsimp only; rw [zup_self, r3 33 (by decide) (by decide) (by decide)]
          have hQ5 : yQ y5 Q' := ⟨fun i hi => by rw [r5 39 (by decide), r5 40 (by decide), r5 41 (by decide), r3 39 (by decide) (by decide) (by decide), r3 40 (by decide) (by decide) (by decide), r3 41 (by decide) (by decide) (by decide)]; exact hQ4.1 i hi, by rw [ey5, ey3]; exact s38⟩
          have hchk := chT_kids hL (me := R.length) hch
          have hlen : Q'.length + (kids M K t R.length).length ≤ 420 := by
            rcases chT_len hL _ _ hchk with q | q
            · simp only [List.length_append, List.length_reverse] at q; omega
            · simp only [List.length_append, List.length_reverse] at q; omega
          refine y_look h3 (hC4.k k5 (by decide) (by decide)) (t := t) c60 tok.2.1 tok.2.2.1 (by rw [r5 28 (by decide), q28, upd_self]) (by rw [r5 29 (by decide), q29, upd_self]) td8 (by rw [q33, upd_self]) ?_ hQ5 hlen (fun f' y' h' k' l30 l31 l34 hQ' => ?_)
          · rw [r5 32 (by decide), q32, upd_self, r5 28 (by decide), q28, r5 30 (by decide), r3 30 (by decide) (by decide) (by decide), r5 34 (by decide), r3 34 (by decide) (by decide) (by decide)]
            rcases pc with q | ⟨p, fr', h', kp, p1, p2, p3, p4, p5, p6, p7, p8, p9⟩
            · exact Or.inl q
            · exact Or.inr ⟨p, fr', h', kp, p1, by omega, p3, by rw [upd_ne _ _ (by omega)]; exact p4, p5, p6, p7, p8, p9⟩
          · have k'' : yK [28, 29, 30, 31, 32, 33, 34, 39, 40, 41, 43, 44, 45, 50, 51, 52, 54] [26, 27, 38, 42, 46, 47, 48, 49, 53, 55] y4 y' := k5.trans (k'.mono (by decide) (by decide))
            have s26 : y'.2.2.1 26 = nI (R.length + 1) := by
              rw [k'.2.2.1 26 (by decide), ey5, ey3, ey9]; dsimp only; rw [zup_self]
            have s27 : y'.2.2.1 27 = nI lost := by
              rw [k'.2.2.1 27 (by decide), ey5, ey3, ey9]; dsimp only; rw [zup_ne _ _ (by decide)]; exact hE4.2.1
            have hE' : yEn y' M K (R ++ [t]) lost := by
              refine ⟨by rw [s26]; simp, s27, by simp; omega, fun i hi => ?_⟩
              simp only [List.length_append, List.length_cons, List.length_nil] at hi
              rw [k'.1 28 (by decide), k'.1 29 (by decide), k'.1 32 (by decide), k'.1 33 (by decide), l30, l31, l34, q33, r5 28 (by decide), r5 29 (by decide), r5 30 (by decide), r5 31 (by decide), r5 32 (by decide), r5 34 (by decide), q28, q29, q32, r3 30 (by decide) (by decide) (by decide), r3 31 (by decide) (by decide) (by decide), r3 34 (by decide) (by decide) (by decide)]
              by_cases e : i = R.length
              · subst e
                rw [app_eq, upd_self, upd_self, upd_self, upd_self, upd_self, upd_self, upd_self]
                exact ⟨tok.pre (List.prefix_append _ _) (Nat.le_refl _), td8, rfl, rfl, rfl, rfl, rfl, rfl, rfl⟩
              · have hi' : i < R.length := by omega
                rw [app_lt hi', upd_ne _ _ e, upd_ne _ _ e, upd_ne _ _ e, upd_ne _ _ e, upd_ne _ _ e, upd_ne _ _ e, upd_ne _ _ e]
                obtain ⟨k1, rest⟩ := hE4.2.2.2 i hi'
                exact ⟨k1.pre (List.prefix_append _ _) (by omega), rest⟩
            have hmeas : (60 - (R ++ [t]).length) * 421 + (Q' ++ (kids M K t R.length).reverse).length ≤ u := by
              obtain ⟨m, hm⟩ : ∃ m, 60 - R.length = m + 1 := ⟨60 - R.length - 1, by omega⟩
              have e1 : 60 - (R ++ [t]).length = m := by rw [List.length_append]; show 60 - (R.length + 1) = m; omega
              have e2 : (Q' ++ (kids M K t R.length).reverse).length = Q'.length + (kids M K t R.length).length := by rw [List.length_append, List.length_reverse]
              rw [hm, hql, Nat.add_mul, Nat.one_mul] at hu
              rw [e1, e2]
              generalize m * 421 = mm at hu ⊢
              omega
            have hrv : (Q' ++ (kids M K t R.length).reverse).reverse = kids M K t R.length ++ Q'.reverse := by simp
            refine ih (Q' ++ (kids M K t R.length).reverse) (R ++ [t]) lost y' f' hmeas h' (hC4.k k'' (by decide) (by decide)) hE' hQ' (by rw [hrv]; exact hchk) (fun v hv => ?_) (fun w => by simp at w) (fun f6 y6 h6 k6 hE6 => hp f6 y6 h6 (k4.trans (k''.trans k6)) (by rw [hrv] at hE6; exact hE6))
            simp only [List.length_append, List.length_cons, List.length_nil]
            rcases List.mem_append.mp hv with q | q
            · obtain ⟨v1, v2⟩ := hok v (List.mem_append_left _ q)
              refine ⟨?_, v2⟩
              have v3 := v1.pre (List.prefix_append R [t]) (Nat.le_refl _)
              by_cases q0 : v.1 = 0
              · exfalso
                have r0 := (v1.2.2.2.1 q0).2.2
                have := h01 r0
                have := List.length_pos_of_mem q
                omega
              · exact v3.mono (by omega) (by omega)
            · rw [List.mem_reverse] at q
              obtain ⟨d1, d2, d3⟩ := kids_dp v q
              obtain ⟨i1, i2, i3⟩ := kids_in hL tok.2.1 tok.2.2.1 v q
              have := tK_dp i3
              refine ⟨⟨by omega, i1, i2, fun w => by omega, fun _ => ?_⟩, by omega⟩
              rw [d2, Nat.add_sub_cancel, app_eq]
              exact ⟨d1, d3, i3⟩
        refine ⟨_, ⟨_, h33.2.2.1, rfl⟩, _, ⟨_, h33.2.2.1, rfl⟩, _, _, h33.ai 32 (t := 0) rfl (by decide) (by decide), vR, ?_⟩
        rw [nI_cl R.length (by omega), q32, upd_self]
        by_cases q0 : t.1 = 0
        · rw [show iI t.1 = -1 by rw [q0]; rfl]
          exact ⟨fun w => absurd rfl w, fun _ => go 0 (by rw [(tok.2.2.2.1 q0).1]; rfl)⟩
        · have hpR : t.1 - 1 < R.length := by have := tok.1; omega
          have ei : iI t.1 = nI (t.1 - 1) := by unfold iI; rw [if_neg q0]
          obtain ⟨_, _, _, _, _, _, _, d33, _⟩ := hE4.2.2.2 (t.1 - 1) hpR
          rw [ei]
          refine ⟨fun _ => ⟨_, ⟨_, h33.2.2.1, rfl⟩, _, ⟨_, h33.2.2.1, rfl⟩, _, _, h33.ai 32 (t := 0) rfl (by decide) (by decide), vR, _, _, h33.ai 33 (t := 0) rfl (by decide) (by decide), ?_, ?_⟩, fun w => ?_⟩
          · rw [q32, upd_self, ei]; exact vp_in_nI (by show t.1 - 1 < 60; omega) (by decide)
          · rw [q32, upd_self, ei, nI_cl (t.1 - 1) (by omega), r3 33 (by decide) (by decide) (by decide), d33, nI_1]
            refine go _ ?_
            rw [(tok.2.2.2.2 (by omega)).1]
          · exfalso
            have := (oI_none (o := some (t.1 - 1)) (fun x hx => by cases hx; omega)).mp w
            cases this
      · rw [e60] at c
        rw [if_neg (by omega)] at hp
        have k5 : yK [28, 29, 30, 31, 32, 33, 34, 39, 40, 41, 43, 44, 45, 50, 51, 52, 54] [26, 27, 38, 42, 46, 47, 48, 49, 53, 55] y4 (y4.1, y4.2.1, va_up y4.2.2.1 27 (nI lost + 1), y4.2.2.2) := yK.ws y4 _ (by decide)
        refine ih Q' R (lost + 1) _ f5 (by omega) h5 (hC4.k k5 (by decide) (by decide)) ⟨by dsimp only; rw [zup_ne _ _ (by decide)]; exact hE4.1, by dsimp only; rw [zup_self, nI_1], h60, hE4.2.2.2⟩ ⟨hQ4.1, by dsimp only; rw [zup_ne _ _ (by decide)]; exact hQ4.2⟩ hch' (fun v hv => hok v (List.mem_append_left _ hv)) (fun w => by omega) (fun f' y' h' k' hE' => hp f' y' h' ((k4.trans k5).trans k') hE')
end YBd
