/-! put, body of the reference -/
theorem nI_subneg {a c : Nat} (h : a < c) (hc : c < 2 ^ 31) : nI a - nI c < 0 := by
  rw [Int32.lt_iff_toInt_lt, Int32.toInt_sub, nI_toInt (by omega), nI_toInt hc, Int.bmod_eq_of_le (by omega) (by omega)]
  show _ < (0 : Int)
  omega
section YBy
variable {b : xhp} {ad : Nat → Nat} {f : xhp} {Y P M : List Nat} {R : List eT} {lost : Nat}
theorem y_put {y : yS} (h : yM b f ad y) {D : List Nat} {j x : Nat} (hx : x < 256) (hT : yTp y (D.drop j)) (hD : D.length < 1500) (hj : j ≤ 1500) {post : xhp → Prop} (hp : ∀ f' y', yM b f' ad y' → yK [18] [19] y y' → yTp y' ((D ++ [x]).drop j) → post f') : w_Mo_put post (ad 57) (nI D.length - nI j) (sb x) f := by
  by_cases c : D.length < j
  · have := nI_subneg c (by omega)
    refine ⟨fun _ => hp f y h (yK.refl y) ?_, fun q => absurd this q⟩
    rw [List.drop_eq_nil_of_le (by simp; omega)]
    rw [List.drop_eq_nil_of_le (by omega)] at hT
    exact hT
  · rw [nI_sub' (by omega)]
    refine ⟨fun q => absurd q (nI_pos (by omega)), fun _ => ⟨fun _ => ⟨_, ⟨_, h.2.2.1, rfl⟩, m_wa h (k := 18) (t := 3) (j := D.length - j) rfl (by decide) (by decide) (v' := sb x) (sb_all x hx).2.2.1 (by show _ < 1500; omega) (by omega) (fun f4 h4 => m_ws h4 rfl (by decide) (by decide) (by decide) (fun f6 h6 => ?_))⟩, fun q => absurd (by rw [show (1500 : Int32) = nI 1500 from rfl, nI_ltI (by omega) (by decide)]; omega) q⟩⟩
    rw [nI_1] at h6
    dsimp only at h6
    have ed : (D ++ [x]).drop j = D.drop j ++ [x] := List.drop_append_of_le_length (by omega)
    refine hp f6 _ h6 ((yK.wa y _ (by decide)).trans (yK.ws _ _ (by decide))) ?_
    rw [ed]
    have hl : (D.drop j).length = D.length - j := List.length_drop
    refine ⟨fun i hi => ?_, ?_, by rw [List.length_append, hl]; show _ + 1 ≤ 1500; omega, hT.2.2.2.app (zB_of (by simp; exact hx))⟩
    · dsimp only
      rw [zup_self]
      rw [List.length_append, hl] at hi
      have hi : i < D.length - j + 1 := hi
      by_cases q : i = D.length - j
      · rw [q, upd_self]
        congr 1
        rw [← hl]
        simp [List.getD]
      · rw [upd_ne _ _ q, hT.1 i (by omega)]
        congr 1
        have hi' : i < (D.drop j).length := by omega
        simp only [List.getD, List.getElem?_append_left hi']
    · dsimp only
      rw [zup_self, List.length_append, hl]; rfl
theorem y_body (h : yN b ad f Y P M R lost) {e k : Int32} {post : Int32 → xhp → Prop} (hp0 : (∀ B, sBody M R e = some B → k < 0 ∨ B.length < k.toNatClampNeg) → ∀ f', yN b ad f' Y P M R lost → post (-1) f') (hp1 : ∀ B j, sBody M R e = some B → k = nI j → j ≤ B.length → B.length ≤ 1500 → ∀ f', yN b ad f' Y (B.drop j) M R lost → post (nI (B.length - j)) f') : w_Mo_body post (ad 57) e k f := by
  obtain ⟨y, rd, h, hc⟩ := h
  have hE := hc.2.1
  have hC := hc.1
  have h60 := hE.2.2.1
  have hM := hC.1.2.2.1
  have hK := hC.2.2.1.1
  have bM := hC.1.2.2.2
  have hL := hC.2.2.1
  refine ⟨h.O, y_isThere h hE hc.2.2.1 hc.rl ?_⟩
  cases hz : zfind R.length e with
  | none =>
    have e0 : sBody M R e = none := by unfold sBody; rw [hz]
    exact ⟨fun c => absurd rfl c, fun _ => hp0 (fun B hB => by rw [e0] at hB; cases hB) f ⟨y, rd, h, hc⟩⟩
  | some i =>
    have hi := zfind_lt hz
    have ei := zfind_e hz
    have e1 : sBody M R e = some (jn M (lns M) (tB M (lns M) (R.getD i t0)) (R.getD i t0).2.2.2.1) := by unfold sBody; rw [hz]
    clear hz
    subst ei
    have vi : vp_in (nI i) 60 := vp_in_nI (by omega) (by decide)
    have ci := nI_cl i (by omega)
    obtain ⟨ok, _, f28, f29, f30, f31, f32, f33, f34⟩ := hE.2.2.2 i hi
    have hto := ok.2.2.1
    have hB := tB_le M (lns M) ok.2.1
    obtain ⟨fr, efr⟩ : ∃ fr, fr = tB M (lns M) (R.getD i t0) := ⟨_, rfl⟩
    obtain ⟨to_, eto⟩ : ∃ to_, to_ = (R.getD i t0).2.2.2.1 := ⟨_, rfl⟩
    rw [← efr, ← eto] at e1
    rw [← efr] at f31
    rw [← eto] at f29 hto
    rw [← efr, ← eto] at hB
    obtain ⟨B, eB⟩ : ∃ B, B = jnF M (lns M) fr to_ (to_ - fr) fr := ⟨_, rfl⟩
    replace e1 : sBody M R (nI i) = some B := by rw [e1, eB]; rfl
    have hBl : B.length ≤ M.length := by
      have := jnF_len hL (from_ := fr) (to_ := to_) hto (to_ - fr) fr (Nat.le_refl _) (by omega)
      rw [if_neg (Nat.lt_irrefl _), ← eB] at this
      omega
    have jeq : ∀ n l, l < to_ → jnF M (lns M) fr to_ (n + 1) l = ((if fr < l then [10] else []) ++ sub M (lf M (lns M) l) (lt M (lns M) l)) ++ jnF M (lns M) fr to_ n (l + 1) := by
      intro n l hl
      show (if l < to_ then _ else _) = _
      rw [if_pos hl]
    have gt := fun (y1 : yS) (f1 : xhp) (h1 : yM b f1 ad y1) (q : Nat) (ht : ytg q = 0) (h35 : q ≠ 35) => h1.ai q ht (by decide) h35
    refine ⟨fun _ => ⟨_, ⟨_, h.2.2.1, rfl⟩, _, _, gt y f h 31 rfl (by decide), vi, (to_ - fr) + 1, ?_⟩, fun c => absurd c (by simp [zb])⟩
    rw [ci, f31]
    -- the bytes of a line
    have l143 : ∀ (k99 : Nat → Int32 → Int32 → Int32 → Int32 → Int32 → xhp → Prop) (j l : Nat) (T : List Nat), j ≤ B.length → l < to_ → (∀ y2 f2 D, yM b f2 ad y2 → yK [18] [19] y y2 → yTp y2 (D.drop j) → D ++ T = B → k99 (ad 57) (nI i) (nI j) (nI B.length) (nI D.length) (nI (l + 1)) f2) → ∀ (n p : Nat) (D : List Nat) (y1 : yS) (f1 : xhp), p + n = lt M (lns M) l → yM b f1 ad y1 → yK [18] [19] y y1 → yTp y1 (D.drop j) → D ++ (sub M p (lt M (lns M) l) ++ T) = B → w_Mo_body_143 post k99 (n + 1) (ad 57) (nI i) (nI j) (nI B.length) (nI D.length) (nI l) (nI p) f1 := by
      intro k99 j l T hj hl hk n
      have fl := hL.f_le l
      have ltl : lt M (lns M) l = ((lns M).getD l (0, 0)).2 := lt_in (by omega)
      induction n with
      | zero =>
        intro p D y1 f1 hpn h1 k1 hT1 hD
        have vl : vp_in (nI l) 1501 := vp_in_nI (by omega) (by decide)
        refine ⟨_, ⟨_, h1.2.2.1, rfl⟩, _, _, gt y1 f1 h1 25 rfl (by decide), vl, ?_⟩
        rw [nI_cl l (by omega), k1.1 25 (by decide), (hC.2.1.1 l (by omega)).2, ← ltl]
        refine ⟨fun _ => ?_, fun c => absurd (nI_le (by omega) (by omega)) c⟩
        rw [nI_1]
        refine hk y1 f1 D h1 k1 hT1 ?_
        rw [sub_nil (by omega), List.nil_append] at hD
        exact hD
      | succ n ih =>
        intro p D y1 f1 hpn h1 k1 hT1 hD
        have vl : vp_in (nI l) 1501 := vp_in_nI (by omega) (by decide)
        refine ⟨_, ⟨_, h1.2.2.1, rfl⟩, _, _, gt y1 f1 h1 25 rfl (by decide), vl, ?_⟩
        rw [nI_cl l (by omega), k1.1 25 (by decide), (hC.2.1.1 l (by omega)).2, ← ltl]
        rw [sub_cons (by omega) fl.2] at hD
        have hD : D ++ (M.getD p 0 :: (sub M (p + 1) (lt M (lns M) l) ++ T)) = B := hD
        have hDl : D.length < B.length := by rw [← hD]; simp
        refine ⟨fun c => absurd c (by rw [nI_leI (by omega) (by omega)]; omega), fun _ => ⟨_, ⟨_, h1.2.2.1, rfl⟩, _, _, h1.ai 20 (t := 3) rfl (by decide) (by decide), vp_in_nI (by show p < 1500; omega) (by decide), h1.O, ?_⟩⟩
        rw [nI_cl p (by omega), k1.1 20 (by decide), hC.1.1 p (by omega)]
        refine y_put h1 (bM p) hT1 (by omega) (by omega) (fun f2 y2 h2 k2 hT2 => ?_)
        rw [nI_1, nI_1]
        have := ih (p + 1) (D ++ [M.getD p 0]) y2 f2 (by omega) h2 (k1.trans k2) hT2 (by rw [List.append_assoc]; exact hD)
        rw [List.length_append] at this
        exact this
    -- the lines
    have l99 : ∀ (j : Nat), j ≤ B.length → k = nI j → ∀ (n l : Nat) (D : List Nat) (y1 : yS) (f1 : xhp), to_ - l = n → fr ≤ l → l ≤ to_ → yM b f1 ad y1 → yK [18] [19] y y1 → yTp y1 (D.drop j) → D ++ jnF M (lns M) fr to_ n l = B → w_Mo_body_99 post (n + 1) (ad 57) (nI i) (nI j) (nI B.length) (nI D.length) (nI l) f1 := by
      intro j hj ekj n
      induction n with
      | zero =>
        intro l D y1 f1 hl hfl hlt h1 k1 hT1 hD
        have : l = to_ := by omega
        subst this
        refine ⟨_, ⟨_, h1.2.2.1, rfl⟩, _, _, gt y1 f1 h1 29 rfl (by decide), vi, ?_⟩
        rw [ci, k1.1 29 (by decide), f29]
        refine ⟨fun _ => ?_, fun c => absurd (nI_le (Nat.le_refl _) (by omega)) c⟩
        rw [nI_sub' hj]
        have hD : D ++ [] = B := hD
        rw [List.append_nil] at hD
        subst hD
        exact hp1 D j e1 ekj hj (by omega) f1 ⟨y1, rd, h1, hc.up k1 (by decide) (by decide) (fun i hi => by rw [k1.1 17 (by decide)]; exact hc.2.2.2.2.1 i hi) hc.2.2.2.2.2.1 hT1⟩
      | succ n ih =>
        intro l D y1 f1 hl hfl hlt h1 k1 hT1 hD
        rw [jeq n l (by omega)] at hD
        have k134 : ∀ (D' : List Nat) (y2 : yS) (f2 : xhp), yM b f2 ad y2 → yK [18] [19] y y2 → yTp y2 (D'.drop j) → D' ++ (sub M (lf M (lns M) l) (lt M (lns M) l) ++ jnF M (lns M) fr to_ n (l + 1)) = B → w_Mo_body_134 post (w_Mo_body_99 post (n + 1)) (ad 57) (nI i) (nI j) (nI B.length) (nI D'.length) (nI l) f2 := by
          intro D' y2 f2 h2 k2 hT2 hD2
          have fl := hL.f_le l
          have vl : vp_in (nI l) 1501 := vp_in_nI (by omega) (by decide)
          refine ⟨_, ⟨_, h2.2.2.1, rfl⟩, _, _, gt y2 f2 h2 24 rfl (by decide), vl, (lt M (lns M) l - lf M (lns M) l) + 1, ?_⟩
          rw [nI_cl l (by omega), k2.1 24 (by decide), (hC.2.1.1 l (by omega)).1, ← lf_in (M := M) (show l < (lns M).length by omega)]
          exact l143 _ j l _ hj (by omega) (fun y3 f3 D3 h3 k3 hT3 hD3 => ih (l + 1) D3 y3 f3 (by omega) (by omega) (by omega) h3 k3 hT3 hD3) _ _ D' y2 f2 (by omega) h2 k2 hT2 hD2
        refine ⟨_, ⟨_, h1.2.2.1, rfl⟩, _, _, gt y1 f1 h1 29 rfl (by decide), vi, ?_⟩
        rw [ci, k1.1 29 (by decide), f29]
        refine ⟨fun c => absurd c (by rw [nI_leI (by omega) (by omega)]; omega), fun _ => ⟨_, ⟨_, h1.2.2.1, rfl⟩, _, _, gt y1 f1 h1 31 rfl (by decide), vi, ?_⟩⟩
        rw [k1.1 31 (by decide), f31, nI_leI (by omega) (by omega)]
        refine ⟨fun c => k134 D y1 f1 h1 k1 hT1 ?_, fun c => ⟨h1.O, ?_⟩⟩
        · rw [if_neg (by omega), List.nil_append] at hD; exact hD
        · rw [if_pos (by omega), List.append_assoc] at hD
          have hD : D ++ (10 :: (sub M (lf M (lns M) l) (lt M (lns M) l) ++ jnF M (lns M) fr to_ n (l + 1))) = B := hD
          have hDl : D.length < B.length := by rw [← hD]; simp
          rw [show (10 : Int32) = sb 10 from by decide]
          refine y_put h1 (by decide) hT1 (by omega) (by omega) (fun f2 y2 h2 k2 hT2 => ?_)
          rw [nI_1]
          have := k134 (D ++ [10]) y2 f2 h2 (k1.trans k2) hT2 (by rw [List.append_assoc]; exact hD)
          rw [List.length_append] at this
          exact this
    -- how many bytes
    have l20 : ∀ (n l a : Nat), to_ - l = n → fr ≤ l → l ≤ to_ → a + (jnF M (lns M) fr to_ n l).length = B.length → w_Mo_body_20 post (n + 1) (ad 57) (nI i) k (nI a) (nI l) f := by
      intro n
      induction n with
      | zero =>
        intro l a hl hfl hlt ha
        have : l = to_ := by omega
        subst this
        have ha : a + 0 = B.length := ha
        have : a = B.length := by omega
        subst this
        refine ⟨_, ⟨_, h.2.2.1, rfl⟩, _, _, gt y f h 29 rfl (by decide), vi, ?_⟩
        rw [ci, f29]
        refine ⟨fun _ => ⟨fun c => ?_, fun c => ?_⟩, fun c => absurd (nI_le (Nat.le_refl _) (by omega)) c⟩
        · exact hp0 (fun B' _ => Or.inl c) f ⟨y, rd, h, hc⟩
        · obtain ⟨j, hj, ekj⟩ := nI_of c
          rw [ekj, nI_leI (by omega) (by omega)]
          refine ⟨fun c1 => ?_, fun c1 => ?_⟩
          · refine m_ws h rfl (by decide) (by decide) (by decide) (fun f5 h5 => ⟨_, ⟨_, h5.2.2.1, rfl⟩, _, _, gt _ f5 h5 31 rfl (by decide), vi, (l - fr) + 1, ?_⟩)
            dsimp only
            rw [f31]
            exact l99 j c1 ekj (l - fr) fr [] _ f5 rfl (Nat.le_refl _) hB.2 h5 (yK.ws y _ (by decide)) ⟨fun q hq => absurd hq (by simp), by dsimp only; rw [zup_self, List.drop_nil]; rfl, by simp, by rw [List.drop_nil]; exact zB.nil⟩ eB.symm
          · refine hp0 (fun B' hB' => Or.inr ?_) f ⟨y, rd, h, hc⟩
            rw [e1] at hB'
            cases hB'
            rw [ekj, nI_cl j hj]; omega
      | succ n ih =>
        intro l a hl hfl hlt ha
        have fl := hL.f_le l
        have vl : vp_in (nI l) 1501 := vp_in_nI (by omega) (by decide)
        rw [jeq n l (by omega), List.length_append, List.length_append, sub_len fl.2] at ha
        refine ⟨_, ⟨_, h.2.2.1, rfl⟩, _, _, gt y f h 29 rfl (by decide), vi, ?_⟩
        rw [ci, f29]
        refine ⟨fun c => absurd c (by rw [nI_leI (by omega) (by omega)]; omega), fun _ => ⟨_, ⟨_, h.2.2.1, rfl⟩, _, _, gt y f h 25 rfl (by decide), vl, _, ⟨_, h.2.2.1, rfl⟩, _, _, gt y f h 24 rfl (by decide), vl, _, ⟨_, h.2.2.1, rfl⟩, _, _, gt y f h 31 rfl (by decide), vi, ?_⟩⟩
        rw [f31, nI_cl l (by omega), (hC.2.1.1 l (by omega)).1, (hC.2.1.1 l (by omega)).2, ← lf_in (M := M) (show l < (lns M).length by omega), ← lt_in (M := M) (show l < (lns M).length by omega), nI_leI (by omega) (by omega), nI_sub' fl.1]
        refine ⟨fun c => ?_, fun c => ?_⟩
        · rw [if_neg (by omega)] at ha
          show w_Mo_body_20 post (n + 1) (ad 57) (nI i) k (nI a + (nI _ + 0)) (nI l + 1) f
          rw [Int32.add_zero, nI_add, nI_1]
          exact ih (l + 1) _ (by omega) (by omega) (by omega) (by simp at ha; omega)
        · rw [if_pos (by omega)] at ha
          show w_Mo_body_20 post (n + 1) (ad 57) (nI i) k (nI a + (nI _ + 1)) (nI l + 1) f
          rw [nI_1, nI_add, nI_1]
          exact ih (l + 1) _ (by omega) (by omega) (by omega) (by simp at ha; omega)
    exact l20 (to_ - fr) fr 0 rfl (Nat.le_refl _) hB.2 (by rw [← eB]; omega)
end YBy
