/-! the calls: feed, end, byteAt, text, count, length, at, field, parameter, body -/
def zNc (z : zS) (Y P M : List Nat) (R : List eT) (lost : Nat) : Prop :=
  z.1 0 = Y ∧ z.1 1 = P ∧ z.1 2 = M ∧ z.2.2.1 = lns M ∧ z.2.2.2.1 = R.length ∧ z.2.2.2.2 = lost ∧ R.length ≤ 60 ∧ zB Y ∧ zB P ∧ zB M ∧ (∀ k, k < 6 → z.1 (4 + k) = xbN k) ∧ z.1 10 = txL M (lns M) R ∧ z.1 11 = hgL M (lns M) R ∧ ∀ i, i < R.length → tOK M (lns M) R i (R.getD i t0) ∧ (R.getD i t0).2.1 ≤ 8 ∧ zF M (lns M) R i (R.getD i t0) (z.2.1 i)
theorem zNc.up {z : zS} {Y P M : List Nat} {R : List eT} {lost : Nat} (h : zNc z Y P M R lost) {r' : Nat → List Nat} {Y' P' : List Nat} (h0 : r' 0 = Y') (h1 : r' 1 = P') (bY : zB Y') (bP : zB P') (hr : ∀ j, j ≠ 0 → j ≠ 1 → j ≠ 3 → r' j = z.1 j) : zNc (r', z.2) Y' P' M R lost := by
  obtain ⟨z0, z1, z2, zl, zm, zo, h60, _, _, bM, zn, z10, z11, zE⟩ := h
  exact ⟨h0, h1, by dsimp only; rw [hr 2 (by decide) (by decide) (by decide)]; exact z2, zl, zm, zo, h60, bY, bP, bM, fun k hk => by dsimp only; rw [hr _ (by omega) (by omega) (by omega)]; exact zn k hk, by dsimp only; rw [hr 10 (by decide) (by decide) (by decide)]; exact z10, by dsimp only; rw [hr 11 (by decide) (by decide) (by decide)]; exact z11, zE⟩
theorem zNc.up3 {z : zS} {Y P M : List Nat} {R : List eT} {lost : Nat} (h : zNc z Y P M R lost) (L : List Nat) : zNc (va_up z.1 3 L, z.2) Y P M R lost :=
  h.up (by rw [zup_ne _ _ (by decide)]; exact h.1) (by rw [zup_ne _ _ (by decide)]; exact h.2.1) h.2.2.2.2.2.2.2.1 h.2.2.2.2.2.2.2.2.1 (fun j _ _ n3 => zup_ne _ _ n3)
theorem zNc.up1 {z : zS} {Y P M : List Nat} {R : List eT} {lost : Nat} (h : zNc z Y P M R lost) {L : List Nat} (hL : zB L) : zNc (va_up z.1 1 L, z.2) Y L M R lost :=
  h.up (by rw [zup_ne _ _ (by decide)]; exact h.1) (zup_self _ _ _) h.2.2.2.2.2.2.2.1 hL (fun j _ n1 _ => zup_ne _ _ n1)
theorem zNc.up0 {z : zS} {Y P M : List Nat} {R : List eT} {lost : Nat} (h : zNc z Y P M R lost) {L : List Nat} (hL : zB L) : zNc (va_up z.1 0 L, z.2) L P M R lost :=
  h.up (zup_self _ _ _) (by rw [zup_ne _ _ (by decide)]; exact h.2.1) hL h.2.2.2.2.2.2.2.2.1 (fun j n0 _ _ => zup_ne _ _ n0)
theorem zNc.g {z : zS} {Y P M : List Nat} {R : List eT} {lost : Nat} (h : zNc z Y P M R lost) : zG z := by
  obtain ⟨z0, z1, z2, zl, zm, zo, h60, bY, bP, bM, zn, z10, z11, zE⟩ := h
  exact ⟨by rw [z2]; exact bM, by rw [z2, zl]; exact lns_zL M, zn, by rw [zm]; exact h60⟩
theorem zNc.e {z : zS} {Y P M : List Nat} {R : List eT} {lost : Nat} (h : zNc z Y P M R lost) {b f : xhp} {ad : Nat → Nat} (hz : zMP b f ad z) {i : Nat} (hi : i < R.length) : zE z i (R.getD i t0).2.2.1 (tH M (lns M) (R.getD i t0)) := by
  obtain ⟨z0, z1, z2, zl, zm, zo, h60, bY, bP, bM, zn, z10, z11, zE⟩ := h
  obtain ⟨ok, _, f0, f1, f2, f3, f4, f5, _⟩ := zE i hi
  have hKl : z.2.2.1.length ≤ 1500 := hz.2.2.2.2.1.1
  rw [zl] at hKl
  have := tH_le M (lns M) ok.2.1
  have := ok.2.2.1
  have := ok.2.1
  exact ⟨by omega, f4, f5, by omega, by omega⟩
theorem zNc.dig {z : zS} {Y P M : List Nat} {R : List eT} {lost : Nat} (h : zNc z Y P M R lost) {i : Nat} (hi : i < R.length) : zdig z i = (R.getD i t0).2.2.2.2 := by
  obtain ⟨z0, z1, z2, zl, zm, zo, h60, bY, bP, bM, zn, z10, z11, zE⟩ := h
  obtain ⟨ok, _, f0, f1, _⟩ := zE i hi
  unfold zdig
  rw [f1, zm]
  by_cases q : (R.getD i t0).1 = 0
  · rw [show iI (R.getD i t0).1 = -1 by rw [q]; rfl, zfind_m1]
    exact (ok.2.2.2.1 q).2.1.symm
  · have hq : (R.getD i t0).1 - 1 < R.length := by have := ok.1; omega
    rw [show iI (R.getD i t0).1 = nI ((R.getD i t0).1 - 1) by unfold iI; rw [if_neg q], zfind_nI hq h60]
    obtain ⟨_, _, g0, g1, g2, g3, g4, g5, g6, g7, g8, g9, g11⟩ := zE _ hq
    exact (decz g11).trans (ok.2.2.2.2 (by omega)).2.1.symm
/-- the four bytes of a word -/
def wb (w : Int32) (s : Nat) : Nat := w.toBitVec.toNat / 2 ^ s % 256
def wds (w : Int32) : List Nat := [wb w 24, wb w 16, wb w 8, wb w 0]
theorem wb_lt (w : Int32) (s : Nat) : wb w s < 256 := Nat.mod_lt _ (by decide)
theorem and255 (v : Int32) : v &&& 255 = nI (v.toBitVec.toNat % 256) := by
  apply Int32.toBitVec_inj.mp
  apply BitVec.eq_of_toNat_eq
  have e1 : (v &&& 255).toBitVec.toNat = v.toBitVec.toNat % 256 := by
    rw [Int32.toBitVec_and, BitVec.toNat_and]
    exact Nat.and_two_pow_sub_one_eq_mod _ 8
  rw [e1]
  have : v.toBitVec.toNat % 256 < 256 := Nat.mod_lt _ (by decide)
  show _ = (Int32.ofNat _).toBitVec.toNat
  rw [Int32.toBitVec_ofNat', BitVec.toNat_ofNat]
  rw [Nat.mod_eq_of_lt (a := v.toBitVec.toNat % 256) (by omega)]
theorem wsh (w : Int32) (u : UInt32) (s : Nat) (hu : u.toNat % 32 = s) : ((w.toUInt32 >>> u).toInt32) &&& 255 = nI (wb w s) := by
  rw [and255]
  congr 1
  unfold wb
  congr 1
  show (w.toUInt32 >>> u).toNat = _
  rw [UInt32.toNat_shiftRight, hu, Nat.shiftRight_eq_div_pow]
  rfl
theorem wsh0 (w : Int32) : w &&& 255 = nI (wb w 0) := by
  rw [and255]; unfold wb; rw [Nat.pow_zero, Nat.div_one]
theorem zB.wds (w : Int32) : zB (wds w) := zB_of (by
  intro x hx
  simp only [Jvm.Pilot.CMailPartsLaw_law_r4041_3cd308.wds, List.mem_cons, List.not_mem_nil, or_false] at hx
  rcases hx with h | h | h | h <;> (rw [h]; exact wb_lt _ _))
section ZP
variable {b f : xhp} {ad sk : Nat → Nat} {z : zS} {Y P M : List Nat} {R : List eT} {lost : Nat}
theorem m_addWord (h : zMP b f ad z) {w : Int32} (hl : (z.1 0).length + 4 ≤ 20) {post : xhp → Prop} (hp : ∀ f', zMP b f' ad (va_up z.1 0 (z.1 0 ++ wds w), z.2) → post f') : w_Mp_addWord post (ad 0) w f := by
  have c0 : zcap 0 = 20 := rfl
  unfold w_Mp_addWord
  rw [wsh w (Int32.toUInt32 24 &&& Int32.toUInt32 31) 24 (by decide), wsh w (Int32.toUInt32 16 &&& Int32.toUInt32 31) 16 (by decide), wsh w (Int32.toUInt32 8 &&& Int32.toUInt32 31) 8 (by decide), wsh0]
  refine ⟨_, ⟨_, h.2.2.1, rfl⟩, h.rO (by decide), m_add (j := 0) (by decide) h (by omega) (fun f2 h2 => ⟨_, ⟨_, h2.2.2.1, rfl⟩, h2.rO (by decide), m_add (j := 0) (by decide) h2 (by dsimp only; rw [zup_self, c0]; simp; omega) (fun f4 h4 => ⟨_, ⟨_, h4.2.2.1, rfl⟩, h4.rO (by decide), m_add (j := 0) (by decide) h4 (by dsimp only; rw [zup_self, zup_self, c0]; simp; omega) (fun f6 h6 => ⟨_, ⟨_, h6.2.2.1, rfl⟩, h6.rO (by decide), m_add (j := 0) (by decide) h6 (by dsimp only; rw [zup_self, zup_self, zup_self, c0]; simp; omega) (fun f8 h8 => hp f8 ?_)⟩)⟩)⟩)⟩
  simp only [zup_self, bx_uu, List.append_assoc, List.cons_append, List.nil_append] at h8
  exact h8
theorem m_feed (h : zN b ad f Y P M R lost) {w1 w2 w3 w4 w5 : Int32} {post : xhp → Prop} (hp : ∀ f', zN b ad f' (wds w1 ++ (wds w2 ++ (wds w3 ++ (wds w4 ++ wds w5)))) P M R lost → post f') : w_Mp_feed post (ad 0) w1 w2 w3 w4 w5 f := by
  obtain ⟨z, h, hc⟩ := h
  have l4 : ∀ w, (wds w).length = 4 := fun _ => rfl
  refine ⟨_, ⟨_, h.2.2.1, rfl⟩, h.rO (by decide), m_clear (j := 0) (by decide) h (fun f2 h2 => ⟨h2.O0, m_addWord h2 (by dsimp only; rw [zup_self]; decide) (fun f3 h3 => ⟨h3.O0, m_addWord h3 ?_ (fun f4 h4 => ⟨h4.O0, m_addWord h4 ?_ (fun f5 h5 => ⟨h5.O0, m_addWord h5 ?_ (fun f6 h6 => ⟨h6.O0, m_addWord h6 ?_ (fun f7 h7 => hp f7 ?_)⟩)⟩)⟩)⟩)⟩)⟩
  · simp only [zup_self, List.length_append, List.length_nil, l4]; decide
  · simp only [zup_self, List.length_append, List.length_nil, l4]; decide
  · simp only [zup_self, List.length_append, List.length_nil, l4]; decide
  · simp only [zup_self, List.length_append, List.length_nil, l4]; decide
  · simp only [zup_self, bx_uu, List.append_assoc, List.nil_append] at h7
    exact ⟨_, h7, zNc.up0 hc ((zB.wds _).app ((zB.wds _).app ((zB.wds _).app ((zB.wds _).app (zB.wds _)))))⟩
/-- what end(n) puts on the tape -/
def enB (Y : List Nat) (a n : Nat) : List Nat := (List.range n).map (fun i => Y.getD (a + i) 0)
theorem enB_succ (Y : List Nat) (a n : Nat) : Y.getD a 0 :: enB Y (a + 1) n = enB Y a (n + 1) := by
  unfold enB
  rw [List.range_succ_eq_map, List.map_cons, List.map_map]
  congr 1
  apply List.map_congr_left
  intro x _
  show _ = Y.getD (a + (x + 1)) 0
  congr 1; omega
theorem zB.enB {Y : List Nat} (h : zB Y) (a n : Nat) : zB (enB Y a n) := zB_of (by
  intro x hx
  unfold Jvm.Pilot.CMailPartsLaw_law_r4041_3cd308.enB at hx
  rw [List.mem_map] at hx
  obtain ⟨i, _, rfl⟩ := hx
  exact h _)
theorem m_end_aux {n : Nat} (hn : n ≤ 20) {post : Int32 → xhp → Prop} : ∀ (k a : Nat) (z : zS) (f : xhp), a + k = n → zMP b f ad z → zB (z.1 0) → (z.1 1).length + k ≤ 1500 → (∀ f', zMP b f' ad (va_up (va_up z.1 1 (z.1 1 ++ enB (z.1 0) a k)) 0 [], z.2) → post (nI ((z.1 1).length + k)) f') → w_Mp_end_29 post (k + 1) (ad 0) (nI n) (nI a) f := by
  intro k
  induction k with
  | zero =>
    intro a z f ha h bY hl hp
    have : a = n := by omega
    subst this
    refine ⟨fun _ => ⟨_, ⟨_, h.2.2.1, rfl⟩, h.rO (by decide), m_clear (j := 0) (by decide) h (fun f2 h2 => ⟨_, ⟨_, h2.2.2.1, rfl⟩, _, h2.sz (by decide), ?_⟩)⟩, fun c => absurd (nI_le (Nat.le_refl _) (by omega)) c⟩
    dsimp only
    rw [zup_ne _ _ (by decide)]
    refine hp f2 ?_
    have : va_up z.1 1 (z.1 1 ++ enB (z.1 0) a 0) = z.1 := by
      rw [show z.1 1 ++ enB (z.1 0) a 0 = z.1 1 by simp [enB]]; exact zup_id _ _
    rw [this]; exact h2
  | succ k ih =>
    intro a z f ha h bY hl hp
    refine ⟨fun c => absurd c (by rw [nI_leI (by omega) (by omega)]; omega), fun _ => ⟨_, ⟨_, h.2.2.1, rfl⟩, _, ⟨_, h.2.2.1, rfl⟩, h.rO (by decide), m_get (h.row (by decide)) ⟨h.rO (by decide), ?_⟩⟩⟩
    have e : (if rget (z.1 0) (nI a) < 0 then 0 else rget (z.1 0) (nI a)) = nI ((z.1 0).getD a 0) := by
      have hlen := h.len (j := 0) (by decide)
      by_cases c : a < (z.1 0).length
      · rw [rget_nI c (by omega), if_neg (nI_pos (by have := bY a; omega))]
      · rw [rget_out (by omega) (by omega), if_pos (by decide)]
        rw [show (z.1 0).getD a 0 = 0 by simp [List.getD, List.getElem?_eq_none (Nat.le_of_not_lt c)]]
        rfl
    rw [e]
    refine m_add (j := 1) (by decide) h (by show _ < 1500; omega) (fun f9 h9 => ?_)
    rw [nI_1]
    refine ih (a + 1) _ f9 (by omega) h9 (by dsimp only; rw [zup_ne _ _ (by decide)]; exact bY) (by dsimp only; rw [zup_self]; simp; omega) (fun f' h' => ?_)
    dsimp only at h' ⊢
    simp only [zup_self, bx_uu] at h' ⊢
    rw [zup_ne _ _ (by decide), List.append_assoc, List.cons_append, List.nil_append, enB_succ] at h'
    have := hp f' h'
    rw [show (z.1 1).length + (k + 1) = (z.1 1 ++ [(z.1 0).getD a 0]).length + k by simp; omega] at this
    exact this
theorem m_end (h : zN b ad f Y P M R lost) {n : Int32} {post : Int32 → xhp → Prop} (hp0 : (n < 0 ∨ (20 : Int32) < n ∨ 1500 < P.length + n.toNatClampNeg) → post (-1) f) (hp1 : ∀ k : Nat, n = nI k → k ≤ 20 → P.length + k ≤ 1500 → ∀ f', zN b ad f' [] (P ++ enB Y 0 k) M R lost → post (nI (P.length + k)) f') : w_Mp_end post (ad 0) n f := by
  obtain ⟨z, h, hc⟩ := h
  have hlen := h.len (j := 1) (by decide)
  have z1 := hc.2.1
  rw [z1] at hlen
  refine ⟨fun c => hp0 (Or.inl c), fun c => ⟨fun c1 => hp0 (Or.inr (Or.inl c1)), fun c1 => ⟨_, ⟨_, h.2.2.1, rfl⟩, _, h.sz (by decide), fun c2 => ?_, fun c2 => ?_⟩⟩⟩
  · obtain ⟨k, hk, rfl⟩ := nI_of c
    have k20 : k ≤ 20 := by
      rw [show (20 : Int32) = nI 20 from rfl, nI_ltI (by omega) (by omega)] at c1; omega
    rw [z1, nI_add, show (1500 : Int32) = nI 1500 from rfl, nI_leI (by omega) (by omega)] at c2
    refine ⟨k + 1, m_end_aux k20 k 0 z f (by omega) h (by rw [hc.1]; exact hc.2.2.2.2.2.2.2.1) (by rw [z1]; omega) (fun f' h' => ?_)⟩
    rw [z1, hc.1] at h'
    rw [z1]
    refine hp1 k rfl k20 c2 f' ⟨_, h', zNc.up hc (zup_self _ _ _) (by rw [zup_ne _ _ (by decide), zup_self]) zB.nil (hc.2.2.2.2.2.2.2.2.1.app (hc.2.2.2.2.2.2.2.1.enB _ _)) (fun j a0 a1 _ => by rw [zup_ne _ _ a0, zup_ne _ _ a1])⟩
  · obtain ⟨k, hk, rfl⟩ := nI_of c
    have k20 : k ≤ 20 := by
      rw [show (20 : Int32) = nI 20 from rfl, nI_ltI (by omega) (by omega)] at c1; omega
    rw [z1, nI_add, show (1500 : Int32) = nI 1500 from rfl, nI_leI (by omega) (by omega)] at c2
    exact hp0 (Or.inr (Or.inr (by rw [nI_clamp (by omega)]; omega)))
theorem m_byteAt (h : zN b ad f Y P M R lost) {k : Int32} {post : Int32 → xhp → Prop} (hp : post (rget P k) f) : w_Mp_byteAt post (ad 0) k f := by
  obtain ⟨z, h, hc⟩ := h
  refine ⟨_, ⟨_, h.2.2.1, rfl⟩, h.rO (by decide), m_get (h.row (by decide)) ?_⟩
  rw [hc.2.1]; exact hp
theorem m_text (h : zN b ad f Y P M R lost) {g k : Int32} {post : Int32 → xhp → Prop} (hp : post (rget (if g = 0 then txL M (lns M) R else hgL M (lns M) R) k) f) : w_Mp_text post (ad 0) g k f := by
  obtain ⟨z, h, hc⟩ := h
  refine ⟨fun c => ⟨_, ⟨_, h.2.2.1, rfl⟩, h.rO (by decide), m_get (h.row (by decide)) ?_⟩, fun c => ⟨_, ⟨_, h.2.2.1, rfl⟩, h.rO (by decide), m_get (h.row (by decide)) ?_⟩⟩
  · rw [if_pos c] at hp
    rw [hc.2.2.2.2.2.2.2.2.2.2.2.1]; exact hp
  · rw [if_neg c] at hp
    rw [hc.2.2.2.2.2.2.2.2.2.2.2.2.1]; exact hp
def sCnt (M : List Nat) (R : List eT) (lost : Nat) (w : Int32) : Int32 := if w = 0 then nI R.length else if w = 1 then nI (txL M (lns M) R).length else if w = 2 then nI (hgL M (lns M) R).length else if w = 3 then nI lost else if w = 4 then nI (lns M).length else -1
theorem m_count (h : zN b ad f Y P M R lost) {w : Int32} {post : Int32 → xhp → Prop} (hp : post (sCnt M R lost w) f) : w_Mp_count post (ad 0) w f := by
  obtain ⟨z, h, hc⟩ := h
  obtain ⟨z0, z1, z2, zl, zm, zo, h60, bY, bP, bM, zn, z10, z11, zE⟩ := hc
  unfold sCnt at hp
  refine ⟨fun c => ⟨_, ⟨_, h.2.2.1, rfl⟩, ?_⟩, fun c => ⟨_, ⟨_, h.2.2.1, rfl⟩, _, h.sz (by decide), ?_⟩, fun c => ⟨_, ⟨_, h.2.2.1, rfl⟩, _, h.sz (by decide), ?_⟩, fun c => ⟨_, ⟨_, h.2.2.1, rfl⟩, ?_⟩, fun c => ⟨_, ⟨_, h.2.2.1, rfl⟩, _, ⟨_, h.2.2.2.2.1.2.1, rfl⟩, ?_⟩, fun c0 c1 c2 c3 c4 => ?_⟩
  · subst c; rw [if_pos rfl] at hp; rw [zm]; exact hp
  · subst c; rw [if_neg (by decide), if_pos rfl] at hp; rw [z10]; exact hp
  · subst c; rw [if_neg (by decide), if_neg (by decide), if_pos rfl] at hp; rw [z11]; exact hp
  · subst c; rw [if_neg (by decide), if_neg (by decide), if_neg (by decide), if_pos rfl] at hp; rw [zo]; exact hp
  · subst c; rw [if_neg (by decide), if_neg (by decide), if_neg (by decide), if_neg (by decide), if_pos rfl] at hp; rw [zl]; exact hp
  · rw [if_neg c0, if_neg c1, if_neg c2, if_neg c3, if_neg c4] at hp; exact hp
end ZP
