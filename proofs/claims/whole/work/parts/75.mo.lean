/-! the reference between the calls; feed, end, byteAt, length, at -/
def yNc (y : yS) (rd : Bool) (Y P M : List Nat) (R : List eT) (lost : Nat) : Prop :=
  yC y M (lns M) ∧ yEn y M (lns M) R lost ∧ y.2.2.1 22 = zb rd ∧ (rd = false → M = [] ∧ R = [] ∧ lost = 0) ∧ (∀ i, i < 20 → y.1 17 i = sb (Y.getD i 0)) ∧ zB Y ∧ yTp y P ∧ bt (y.2.2.2 36) (shS M (lns M) R)
def yN (b : xhp) (ad : Nat → Nat) (f : xhp) (Y P M : List Nat) (R : List eT) (lost : Nat) : Prop := ∃ (y : yS) (rd : Bool), yM b f ad y ∧ yNc y rd Y P M R lost
theorem yTp.k {y y' : yS} {P : List Nat} {as ss : List Nat} (h : yTp y P) (hk : yK as ss y y') (h1 : 18 ∉ as) (h2 : 19 ∉ ss) : yTp y' P := ⟨fun i hi => by rw [hk.1 18 h1]; exact h.1 i hi, by rw [hk.2.2.1 19 h2]; exact h.2.1, h.2.2⟩
theorem yEn.k {y y' : yS} {M : List Nat} {K : List (Nat × Nat)} {R : List eT} {lost : Nat} {as ss : List Nat} (h : yEn y M K R lost) (hk : yK as ss y y') (h1 : ∀ k, k < 35 → k < 27 ∨ k ∉ as) (h2 : 26 ∉ ss ∧ 27 ∉ ss) : yEn y' M K R lost := by
  have w : ∀ k, 27 ≤ k → k < 35 → y'.1 k = y.1 k := fun k q1 q2 => hk.1 k (by rcases h1 k q2 with c | c; omega; exact c)
  refine ⟨by rw [hk.2.2.1 26 h2.1]; exact h.1, by rw [hk.2.2.1 27 h2.2]; exact h.2.1, h.2.2.1, fun i hi => ?_⟩
  rw [w 28 (by decide) (by decide), w 29 (by decide) (by decide), w 30 (by decide) (by decide), w 31 (by decide) (by decide), w 32 (by decide) (by decide), w 33 (by decide) (by decide), w 34 (by decide) (by decide)]
  exact h.2.2.2 i hi
theorem yC.k' {y y' : yS} {M : List Nat} {K : List (Nat × Nat)} {as ss : List Nat} (h : yC y M K) (hk : yK as ss y y') (h1 : ∀ k, k < 26 → k = 17 ∨ k = 18 ∨ k ∉ as) (h2 : ∀ k, k < 26 → k = 19 ∨ k = 22 ∨ k ∉ ss) : yC y' M K := by
  have w : ∀ k, k < 26 → k ≠ 17 → k ≠ 18 → k ∉ as := fun k a1 a2 a3 => by rcases h1 k a1 with c | c | c <;> first | omega | exact c
  have v : ∀ k, k < 26 → k ≠ 19 → k ≠ 22 → k ∉ ss := fun k a1 a2 a3 => by rcases h2 k a1 with c | c | c <;> first | omega | exact c
  exact ⟨h.1.k hk (w 20 (by decide) (by decide) (by decide)) (v 21 (by decide) (by decide) (by decide)), h.2.1.k hk (w 24 (by decide) (by decide) (by decide)) (w 25 (by decide) (by decide) (by decide)) (v 23 (by decide) (by decide) (by decide)), h.2.2.1, h.2.2.2.1, h.2.2.2.2.k hk (fun k hk => w k (by omega) (by omega) (by omega))⟩
/-- the tape and what is ready may be new -/
theorem yNc.up {y y' : yS} {rd : Bool} {Y P Y' P' M : List Nat} {R : List eT} {lost : Nat} (h : yNc y rd Y P M R lost) {as ss : List Nat} (hk : yK as ss y y') (h1 : ∀ k, k < 35 → k = 17 ∨ k = 18 ∨ k ∉ as) (h2 : ∀ k, k < 28 → k = 19 ∨ k ∉ ss) (hY : ∀ i, i < 20 → y'.1 17 i = sb (Y'.getD i 0)) (bY : zB Y') (hT : yTp y' P') : yNc y' rd Y' P' M R lost := by
  obtain ⟨c1, c2, c3, c4, c5, c6, c7, c8⟩ := h
  have v : ∀ k, k < 28 → k ≠ 19 → k ∉ ss := fun k a1 a2 => by rcases h2 k a1 with c | c; omega; exact c
  refine ⟨c1.k' hk (fun k hk' => h1 k (by omega)) (fun k hk' => by rcases h2 k (by omega) with c | c; exact Or.inl c; exact Or.inr (Or.inr c)), c2.k hk (fun k hk' => by rcases h1 k hk' with c | c | c; omega; omega; exact Or.inr c) ⟨v 26 (by decide) (by decide), v 27 (by decide) (by decide)⟩, ?_, c4, hY, bY, hT, by rw [hk.2.2.2]; exact c8⟩
  rw [hk.2.2.1 22 (v 22 (by decide) (by decide))]; exact c3
/-- only the looks' own things are new -/
theorem yNc.kk {y y' : yS} {rd : Bool} {Y P M : List Nat} {R : List eT} {lost : Nat} (h : yNc y rd Y P M R lost) (hk : yK [45, 50, 51, 52] [46, 47, 48, 49, 53] y y') : yNc y' rd Y P M R lost :=
  h.up hk (by decide) (by decide) (fun i hi => by rw [hk.1 17 (by decide)]; exact h.2.2.2.2.1 i hi) h.2.2.2.2.2.1 (h.2.2.2.2.2.2.1.k hk (by decide) (by decide))
theorem shb (w : Int32) (s : Nat) (hs : s ≤ 24) (h32 : ((nI s).toBitVec.smod 32#32).toNat = s) : (w >>> nI s).toInt8 = (nI (wb w s)).toInt8 := by
  apply Int8.toBitVec_inj.mp
  apply BitVec.eq_of_getLsbD_eq
  intro i hi
  rw [Int32.toBitVec_toInt8, Int32.toBitVec_toInt8, BitVec.getLsbD_signExtend, BitVec.getLsbD_signExtend, Int32.toBitVec_shiftRight, BitVec.sshiftRight_eq', BitVec.getLsbD_sshiftRight, show ((nI s).toBitVec.smod 32).toNat = s from h32]
  rw [if_pos (by omega), if_pos (by omega), if_pos (by omega)]
  have : (nI (wb w s)).toBitVec.getLsbD i = w.toBitVec.getLsbD (s + i) := by
    show (Int32.ofNat (wb w s)).toBitVec.getLsbD i = _
    rw [Int32.toBitVec_ofNat', BitVec.getLsbD_ofNat, decide_eq_true (by omega), Bool.true_and]
    unfold wb
    rw [show (256 : Nat) = 2 ^ 8 from rfl, Nat.testBit_mod_two_pow, decide_eq_true hi, Bool.true_and, Nat.testBit_div_two_pow]
    rw [BitVec.getLsbD, Nat.add_comm]
  rw [this]
  have h8 : decide (i < 8) = true := decide_eq_true hi
  have h32' : decide (32 ≤ i) = false := decide_eq_false (by omega)
  simp only [h8, h32', Bool.not_false, Bool.true_and]
section YPu
variable {b : xhp} {ad : Nat → Nat} {f : xhp} {Y P M : List Nat} {R : List eT} {lost : Nat}
theorem fd_sh : ∀ k, k < 20 → ((24 - (8 * (nI k - nI k / 4 * 4))) &&& 31) = nI (24 - 8 * (k % 4)) ∧ decide (4 ≤ nI k) = decide (4 ≤ k) ∧ decide (8 ≤ nI k) = decide (8 ≤ k) ∧ decide (12 ≤ nI k) = decide (12 ≤ k) ∧ decide (16 ≤ nI k) = decide (16 ≤ k) := by decide +kernel
theorem fd_by (w : Int32) {k : Nat} (hk : k < 20) : vp_nar .byte ((w >>> ((24 - (8 * (nI k - nI k / 4 * 4))) &&& 31)).toInt8.toInt32) = sb ((wds w).getD (k % 4) 0) := by
  rw [(fd_sh k hk).1]
  have key : ∀ r, r < 4 → vp_nar .byte ((w >>> nI (24 - 8 * r)).toInt8.toInt32) = sb ((wds w).getD r 0) := by
    intro r hr
    have e : (w >>> nI (24 - 8 * r)).toInt8 = (nI (wb w (24 - 8 * r))).toInt8 := by
      have : r = 0 ∨ r = 1 ∨ r = 2 ∨ r = 3 := by omega
      rcases this with h | h | h | h <;> (subst h; exact shb w _ (by decide) (by decide))
    rw [e, show ((nI (wb w (24 - 8 * r))).toInt8.toInt32) = sb (wb w (24 - 8 * r)) from rfl, (sb_all _ (wb_lt _ _)).1]
    have : r = 0 ∨ r = 1 ∨ r = 2 ∨ r = 3 := by omega
    rcases this with h | h | h | h <;> (subst h; rfl)
  exact key (k % 4) (Nat.mod_lt _ (by decide))
theorem y_feed (h : yN b ad f Y P M R lost) {w1 w2 w3 w4 w5 : Int32} {post : xhp → Prop} (hp : ∀ f', yN b ad f' (wds w1 ++ (wds w2 ++ (wds w3 ++ (wds w4 ++ wds w5)))) P M R lost → post f') : w_Mo_feed post (ad 57) w1 w2 w3 w4 w5 f := by
  obtain ⟨y, rd, h, hc⟩ := h
  obtain ⟨Y', eY⟩ : ∃ Y', Y' = wds w1 ++ (wds w2 ++ (wds w3 ++ (wds w4 ++ wds w5))) := ⟨_, rfl⟩
  rw [← eY] at hp
  have bY : zB Y' := by rw [eY]; exact (zB.wds _).app ((zB.wds _).app ((zB.wds _).app ((zB.wds _).app (zB.wds _))))
  have loop : ∀ (n k : Nat) (y1 : yS) (f1 : xhp), k + n = 20 → yM b f1 ad y1 → yK [17] [] y y1 → (∀ i, i < k → y1.1 17 i = sb (Y'.getD i 0)) → w_Mo_feed_3 post (n + 1) (ad 57) w1 w2 w3 w4 w5 (nI k) f1 := by
    intro n
    induction n with
    | zero =>
      intro k y1 f1 hk h1 k1 hj
      have : k = 20 := by omega
      subst this
      exact ⟨fun _ => hp f1 ⟨y1, rd, h1, hc.up k1 (by decide) (by decide) hj bY (hc.2.2.2.2.2.2.1.k k1 (by decide) (by decide))⟩, fun c => absurd (by decide) c⟩
    | succ n ih =>
      intro k y1 f1 hk h1 k1 hj
      have k20 : k < 20 := by omega
      have st : ∀ w, sb ((wds w).getD (k % 4) 0) = sb (Y'.getD k 0) → w_Mo_feed_56 post (w_Mo_feed_3 post (n + 1)) (ad 57) w1 w2 w3 w4 w5 (nI k) w f1 := by
        intro w ew
        refine ⟨_, ⟨_, h1.2.2.1, rfl⟩, by decide, m_wa h1 (k := 17) (t := 3) rfl (by decide) (by decide) ((fd_by w k20).trans ew) k20 (by omega) (fun f4 h4 => ?_)⟩
        rw [nI_1]
        refine ih (k + 1) _ f4 (by omega) h4 (k1.trans (yK.wa y1 _ (by decide))) (fun i hi => ?_)
        dsimp only
        rw [zup_self]
        by_cases q : i = k
        · subst q; rw [upd_self]
        · rw [upd_ne _ _ q]; exact hj i (by omega)
      obtain ⟨_, d4, d8, d12, d16⟩ := fd_sh k k20
      rw [decide_eq_decide] at d4 d8 d12 d16
      refine ⟨fun c => absurd c (by rw [show (20 : Int32) = nI 20 from rfl, nI_leI (by omega) (by omega)]; omega), fun _ => ?_⟩
      rw [d4, d8, d12, d16]
      refine ⟨fun c1 => ⟨fun c2 => ⟨fun c3 => ⟨fun c4 => st w5 ?_, fun c4 => st w4 ?_⟩, fun c3 => st w3 ?_⟩, fun c2 => st w2 ?_⟩, fun c1 => st w1 ?_⟩
      · have : k = 16 ∨ k = 17 ∨ k = 18 ∨ k = 19 := by omega
        rw [eY]
        rcases this with q | q | q | q <;> (subst q; rfl)
      · have : k = 12 ∨ k = 13 ∨ k = 14 ∨ k = 15 := by omega
        rw [eY]
        rcases this with q | q | q | q <;> (subst q; rfl)
      · have : k = 8 ∨ k = 9 ∨ k = 10 ∨ k = 11 := by omega
        rw [eY]
        rcases this with q | q | q | q <;> (subst q; rfl)
      · have : k = 4 ∨ k = 5 ∨ k = 6 ∨ k = 7 := by omega
        rw [eY]
        rcases this with q | q | q | q <;> (subst q; rfl)
      · have : k = 0 ∨ k = 1 ∨ k = 2 ∨ k = 3 := by omega
        rw [eY]
        rcases this with q | q | q | q <;> (subst q; rfl)
  exact ⟨21, loop 20 0 y f (by decide) h (yK.refl y) (fun i hi => absurd hi (Nat.not_lt_zero _))⟩
theorem enB_get (Y : List Nat) (n i : Nat) (h : i < n) : (enB Y 0 n).getD i 0 = Y.getD i 0 := by
  unfold enB
  rw [List.getD_eq_getElem?_getD, List.getElem?_map, List.getElem?_range h]
  show Y.getD (0 + i) 0 = _
  rw [Nat.zero_add]
theorem enB_len (Y : List Nat) (n : Nat) : (enB Y 0 n).length = n := by unfold enB; simp
theorem y_end (h : yN b ad f Y P M R lost) {n : Int32} {post : Int32 → xhp → Prop} (hp0 : (n < 0 ∨ (20 : Int32) < n ∨ 1500 < P.length + n.toNatClampNeg) → post (-1) f) (hp1 : ∀ k : Nat, n = nI k → k ≤ 20 → P.length + k ≤ 1500 → ∀ f', yN b ad f' [] (P ++ enB Y 0 k) M R lost → post (nI (P.length + k)) f') : w_Mo_end post (ad 57) n f := by
  obtain ⟨y, rd, h, hc⟩ := h
  have hT := hc.2.2.2.2.2.2.1
  have hl := hT.2.2.1
  refine ⟨fun c => hp0 (Or.inl c), fun c => ⟨fun c1 => hp0 (Or.inr (Or.inl c1)), fun c1 => ⟨nI P.length, ⟨_, h.2.2.1, by rw [← hT.2.1]; rfl⟩, fun c2 => ?_, fun c2 => ?_⟩⟩⟩
  · obtain ⟨k, hk, rfl⟩ := nI_of c
    have k20 : k ≤ 20 := by
      rw [show (20 : Int32) = nI 20 from rfl, nI_ltI (by omega) (by omega)] at c1; omega
    rw [nI_add, show (1500 : Int32) = nI 1500 from rfl, nI_leI (by omega) (by omega)] at c2
    -- all ready bytes become 0
    have l66 : ∀ (m j : Nat) (y1 : yS) (f1 : xhp), j + m = 20 → yM b f1 ad y1 → yK [17, 18] [19] y y1 → yTp y1 (P ++ enB Y 0 k) → (∀ i, i < j → y1.1 17 i = 0) → w_Mo_end_66 post (m + 1) (ad 57) (nI j) f1 := by
      intro m
      induction m with
      | zero =>
        intro j y1 f1 hj h1 k1 hT1 hz
        have : j = 20 := by omega
        subst this
        refine ⟨fun _ => ⟨_, ⟨_, h1.2.2.1, rfl⟩, ?_⟩, fun c => absurd (by decide) c⟩
        rw [hT1.2.1, List.length_append, enB_len]
        exact hp1 k rfl k20 c2 f1 ⟨y1, rd, h1, hc.up k1 (by decide) (by decide) (fun i hi => by rw [hz i hi]; rfl) zB.nil hT1⟩
      | succ m ih =>
        intro j y1 f1 hj h1 k1 hT1 hz
        refine ⟨fun c => absurd c (by rw [show (20 : Int32) = nI 20 from rfl, nI_leI (by omega) (by omega)]; omega), fun _ => ⟨_, ⟨_, h1.2.2.1, rfl⟩, m_wa h1 (k := 17) (t := 3) rfl (by decide) (by decide) (show vp_nar .byte 0 = 0 by decide) (by show j < 20; omega) (by omega) (fun f5 h5 => ?_)⟩⟩
        rw [nI_1]
        refine ih (j + 1) _ f5 (by omega) h5 (k1.trans (yK.wa y1 _ (by decide))) (hT1.k (yK.wa (as := [17]) (ss := []) y1 _ (by decide)) (by decide) (by decide)) (fun i hi => ?_)
        dsimp only
        rw [zup_self]
        by_cases q : i = j
        · subst q; rw [upd_self]
        · rw [upd_ne _ _ q]; exact hz i (by omega)
    have l26 : ∀ (m j : Nat) (y1 : yS) (f1 : xhp), j + m = k → yM b f1 ad y1 → yK [18] [] y y1 → (∀ i, i < P.length + j → y1.1 18 i = sb ((P ++ enB Y 0 k).getD i 0)) → w_Mo_end_26 post (m + 1) (ad 57) (nI k) (nI j) f1 := by
      intro m
      induction m with
      | zero =>
        intro j y1 f1 hj h1 k1 hz
        have : j = k := by omega
        subst this
        refine ⟨fun _ => ⟨nI P.length, ⟨_, h1.2.2.1, by rw [← hT.2.1, ← k1.2.2.1 19 (by decide)]; rfl⟩, m_ws h1 rfl (by decide) (by decide) (by decide) (fun f3 h3 => ⟨21, ?_⟩)⟩, fun c => absurd (nI_le (Nat.le_refl _) (by omega)) c⟩
        rw [nI_add] at h3
        refine l66 20 0 _ f3 (by decide) h3 ((k1.mono (by decide) (by decide)).trans (yK.ws y1 _ (by decide))) ⟨fun i hi => hz i (by rw [List.length_append, enB_len] at hi; exact hi), ?_, by rw [List.length_append, enB_len]; exact c2, hT.2.2.2.app (hc.2.2.2.2.2.1.enB _ _)⟩ (fun i hi => absurd hi (Nat.not_lt_zero _))
        dsimp only
        rw [zup_self, List.length_append, enB_len]
      | succ m ih =>
        intro j y1 f1 hj h1 k1 hz
        refine ⟨fun c => absurd c (by rw [nI_leI (by omega) (by omega)]; omega), fun _ => ⟨_, ⟨_, h1.2.2.1, rfl⟩, nI P.length, ⟨_, h1.2.2.1, by rw [← hT.2.1, ← k1.2.2.1 19 (by decide)]; rfl⟩, _, ⟨_, h1.2.2.1, rfl⟩, _, _, h1.ai 17 (t := 3) rfl (by decide) (by decide), vp_in_nI (by show j < 20; omega) (by decide), ?_⟩⟩
        rw [nI_add]
        refine m_wa h1 (k := 18) (t := 3) (j := P.length + j) rfl (by decide) (by decide) (v' := sb ((P ++ enB Y 0 k).getD (P.length + j) 0)) ?_ (by show _ < 1500; omega) (by omega) (fun f11 h11 => ?_)
        · rw [nI_cl j (by omega), k1.1 17 (by decide), hc.2.2.2.2.1 j (by omega), (sb_all _ (hc.2.2.2.2.2.1 j)).1]
          congr 1
          rw [← enB_get Y k j (by omega)]
          rw [List.getD_eq_getElem?_getD, List.getD_eq_getElem?_getD, List.getElem?_append_right (by omega), Nat.add_sub_cancel_left]
        · rw [nI_1]
          refine ih (j + 1) _ f11 (by omega) h11 (k1.trans (yK.wa y1 _ (by decide))) (fun i hi => ?_)
          dsimp only
          rw [zup_self]
          by_cases q : i = P.length + j
          · subst q; rw [upd_self]
          · rw [upd_ne _ _ q]; exact hz i (by omega)
    refine ⟨k + 1, l26 k 0 y f (by omega) h (yK.refl y) (fun i hi => ?_)⟩
    rw [hT.1 i (by omega)]
    congr 1
    have hi' : i < P.length := by omega
    simp [List.getD, List.getElem?_append_left hi']
  · obtain ⟨k, hk, rfl⟩ := nI_of c
    have k20 : k ≤ 20 := by
      rw [show (20 : Int32) = nI 20 from rfl, nI_ltI (by omega) (by omega)] at c1; omega
    rw [nI_add, show (1500 : Int32) = nI 1500 from rfl, nI_leI (by omega) (by omega)] at c2
    exact hp0 (Or.inr (Or.inr (by rw [nI_clamp (by omega)]; omega)))
theorem y_byteAt (h : yN b ad f Y P M R lost) {k : Int32} {post : Int32 → xhp → Prop} (hp : post (rget P k) f) : w_Mo_byteAt post (ad 57) k f := by
  obtain ⟨y, rd, h, hc⟩ := h
  have hT := hc.2.2.2.2.2.2.1
  have hl := hT.2.2.1
  unfold rget at hp
  refine ⟨fun c => ?_, fun c => ⟨nI P.length, ⟨_, h.2.2.1, by rw [← hT.2.1]; rfl⟩, fun c1 => ?_, fun c1 => ?_⟩⟩
  · rw [if_pos c] at hp; exact hp
  · rw [if_neg c] at hp
    obtain ⟨j, hj, rfl⟩ := nI_of c
    rw [nI_leI (by omega) hj] at c1
    rw [nI_cl j hj, if_neg (by omega)] at hp
    exact hp
  · rw [if_neg c] at hp
    obtain ⟨j, hj, rfl⟩ := nI_of c
    rw [nI_leI (by omega) hj] at c1
    rw [nI_cl j hj, if_pos (by omega)] at hp
    refine ⟨_, ⟨_, h.2.2.1, rfl⟩, _, _, h.ai 18 (t := 3) rfl (by decide) (by decide), vp_in_nI (by show j < 1500; omega) (by decide), ?_⟩
    rw [nI_cl j hj, hT.1 j (by omega), (sb_all _ (hT.2.2.2 j)).2.1]
    exact hp
theorem yNc.rl {y : yS} {rd : Bool} (h : yNc y rd Y P M R lost) : rd = false → R.length = 0 := fun c => by rw [(h.2.2.2.1 c).2.1]; rfl
theorem y_length (h : yN b ad f Y P M R lost) {e w : Int32} {post : Int32 → xhp → Prop} (hp : ∀ f', yN b ad f' Y P M R lost → post (oLen (sWord M R e w)) f') : w_Mo_length post (ad 57) e w f := by
  obtain ⟨y, rd, h, hc⟩ := h
  refine ⟨h.O, y_tell h hc.1 hc.2.1 hc.2.2.1 hc.rl (fun c => ⟨fun _ => ?_, fun q => absurd rfl q⟩) (fun L hL f' y' h' k' g' => ⟨fun q => absurd q (by decide), fun _ => ⟨nI L.length, ⟨_, h'.2.2.1, by rw [← g'.2.1]; rfl⟩, ?_⟩⟩)⟩
  · have := hp f ⟨y, rd, h, hc⟩; rw [c] at this; exact this
  · have := hp f' ⟨y', rd, h', hc.kk k'⟩; rw [hL] at this; exact this
theorem y_at (h : yN b ad f Y P M R lost) {e w k : Int32} {post : Int32 → xhp → Prop} (hp : ∀ f', yN b ad f' Y P M R lost → post (match sWord M R e w with | none => -1 | some L => rget L k) f') : w_Mo_at post (ad 57) e w k f := by
  obtain ⟨y, rd, h, hc⟩ := h
  refine ⟨h.O, y_tell h hc.1 hc.2.1 hc.2.2.1 hc.rl (fun c => ⟨fun _ => ?_, fun q => absurd rfl q⟩) (fun L hL f' y' h' k' g' => ⟨fun q => absurd q (by decide), fun _ => ?_⟩)⟩
  · have := hp f ⟨y, rd, h, hc⟩; rw [c] at this; exact this
  · have hp := hp f' ⟨y', rd, h', hc.kk k'⟩
    rw [hL] at hp
    have hp : post (rget L k) f' := hp
    have hl := g'.2.2.1
    unfold rget at hp
    refine ⟨fun c => ?_, fun c => ⟨nI L.length, ⟨_, h'.2.2.1, by rw [← g'.2.1]; rfl⟩, fun c1 => ?_, fun c1 => ?_⟩⟩
    · rw [if_pos c] at hp; exact hp
    · rw [if_neg c] at hp
      obtain ⟨j, hj, rfl⟩ := nI_of c
      rw [nI_leI (by omega) hj] at c1
      rw [nI_cl j hj, if_neg (by omega)] at hp
      exact hp
    · rw [if_neg c] at hp
      obtain ⟨j, hj, rfl⟩ := nI_of c
      rw [nI_leI (by omega) hj] at c1
      rw [nI_cl j hj, if_pos (by omega)] at hp
      refine ⟨_, ⟨_, h'.2.2.1, rfl⟩, _, _, h'.ai 52 (t := 3) rfl (by decide) (by decide), vp_in_nI (by show j < 1500; omega) (by decide), ?_⟩
      rw [nI_cl j hj, g'.1 j (by omega), (sb_all _ (g'.2.2.2 j)).2.1]
      exact hp
end YPu
