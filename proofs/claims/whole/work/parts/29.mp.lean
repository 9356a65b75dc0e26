/-! MailParts: loadType, loadName, isOpenCoding, hasBoundary -/
theorem zB.low {L : List Nat} (h : zB L) : zB (L.map low) := by
  apply zB_of
  intro x hx
  obtain ⟨y, hy, rfl⟩ := List.mem_map.mp hx
  obtain ⟨i, hi, e⟩ := List.getElem_of_mem hy
  have := h i
  rw [show L.getD i 0 = y by simp [List.getD, hi, e]] at this
  exact low_lt this
theorem zB.itm {L : List Nat} (h : zB L) : zB (itm L) := (h.trim _ _).low
theorem zB.cons {x : Nat} {L : List Nat} (hx : x < 256) (h : zB L) : zB (x :: L) := by
  intro i
  cases i with
  | zero => exact hx
  | succ i => exact h i
theorem zB.unqF {V : List Nat} (h : zB V) {t : Nat} : ∀ n i, zB (unqF V t n i) := by
  intro n
  induction n with
  | zero => intro i; exact zB.nil
  | succ n ih =>
    intro i
    simp only [Jvm.Pilot.CMailPartsLaw_law_r4041_3cd308.unqF]
    split
    · split
      · exact (ih _).cons (h _)
      · exact (ih _).cons (h _)
    · exact zB.nil
theorem zB.unq {V : List Nat} (h : zB V) : zB (unq V) := by
  unfold Jvm.Pilot.CMailPartsLaw_law_r4041_3cd308.unq
  split
  · split
    · exact h.unqF _ _
    · exact h
  · exact h
theorem zB.parF {V N : List Nat} (h : zB V) : ∀ n s L, parF V N n s = some L → zB L := by
  intro n
  induction n with
  | zero => intro s L hh; simp [Jvm.Pilot.CMailPartsLaw_law_r4041_3cd308.parF] at hh
  | succ n ih =>
    intro s L hh
    simp only [Jvm.Pilot.CMailPartsLaw_law_r4041_3cd308.parF] at hh
    split at hh
    · split at hh
      · cases hh; exact (h.trim _ _).unq
      · exact ih _ _ hh
    · cases hh
theorem zB.par {V N : List Nat} (h : zB V) : zB ((par V N).getD []) := by
  cases hp : Jvm.Pilot.CMailPartsLaw_law_r4041_3cd308.par V N with
  | none => exact zB.nil
  | some L => exact h.parF _ _ _ hp
/-- what stands of a HEAD: Content-Type's VALUE, TYPE, CODING, the disposition's first ITEM, NAME, the boundary -/
def ctV (M : List Nat) (K : List (Nat × Nat)) (fr hd_ : Nat) : List Nat := (fieldV M K (xbN 0) fr hd_).getD []
def typ (M : List Nat) (K : List (Nat × Nat)) (fr hd_ : Nat) (dig : Bool) : List Nat := if isTy (itm (ctV M K fr hd_)) = true then itm (ctV M K fr hd_) else if dig = true then xbN 6 else xbN 7
def cod (M : List Nat) (K : List (Nat × Nat)) (fr hd_ : Nat) : List Nat := itm ((fieldV M K (xbN 1) fr hd_).getD [])
def dspV (M : List Nat) (K : List (Nat × Nat)) (fr hd_ : Nat) : List Nat := (fieldV M K (xbN 2) fr hd_).getD []
def nam (M : List Nat) (K : List (Nat × Nat)) (fr hd_ : Nat) : List Nat := match par (dspV M K fr hd_) (xbN 4) with
  | some L => L
  | none => (par (ctV M K fr hd_) (xbN 5)).getD []
def bnd (M : List Nat) (K : List (Nat × Nat)) (fr hd_ : Nat) : List Nat := (par (ctV M K fr hd_) (xbN 3)).getD []
/-- CODING is nothing, 7bit, 8bit or binary -/
def opn (C : List Nat) : Bool := decide (C.length = 0) || (isW C (xbN 14) || (isW C (xbN 15) || isW C (xbN 16)))
def zG (z : zS) : Prop := zB (z.1 2) ∧ zL (z.1 2) z.2.2.1 ∧ (∀ k, k < 6 → z.1 (4 + k) = xbN k) ∧ z.2.2.2.1 ≤ 60
def zE (z : zS) (i fr hd_ : Nat) : Prop := i < 60 ∧ z.2.1 i 4 = nI fr ∧ z.2.1 i 5 = nI hd_ ∧ fr < 2 ^ 29 ∧ hd_ < 2 ^ 29
def zdig (z : zS) (i : Nat) : Bool := match zfind z.2.2.2.1 (z.2.1 i 1) with
  | some p => decide (¬ z.2.1 p 11 = 0)
  | none => false
theorem zG.up3 {z : zS} (h : zG z) {j : Nat} (L : List Nat) (hj : j ≠ 2) (hj2 : j < 4 ∨ 10 ≤ j) : zG (va_up z.1 j L, z.2) := by
  obtain ⟨h1, h2, h3, h4⟩ := h
  have e2 : (va_up z.1 j L) 2 = z.1 2 := zup_ne _ _ (Ne.symm hj)
  refine ⟨by dsimp only; rw [e2]; exact h1, by dsimp only; rw [e2]; exact h2, fun k hk => ?_, h4⟩
  dsimp only
  rw [zup_ne _ _ (by omega)]; exact h3 k hk
section ZQ
variable {b f : xhp} {ad sk : Nat → Nat} {z : zS}
theorem m_load (h : zMP b f ad z) (g : zG z) {i fr hd_ k : Nat} (e : zE z i fr hd_) (hk : k < 6) {post : Int32 → xhp → Prop} (hp : ∀ f', zMP b f' ad (va_up z.1 3 ((fieldV (z.1 2) z.2.2.1 (xbN k) fr hd_).getD []), z.2) → post (zb (fieldV (z.1 2) z.2.2.1 (xbN k) fr hd_).isSome) f') : w_Mp_loadField post (ad 0) (zen ad i) (ro ad (4 + k)) f := by
  have e1 := g.2.2.1 k hk
  refine m_loadField h g.1 g.2.1 e.1 (by omega) (by omega) (by rw [e1]; exact xbN_zB (by omega)) e.2.2.2.1 e.2.2.2.2 e.2.1 e.2.2.1 (fun f' hf => ?_)
  rw [e1] at hf ⊢
  exact hp f' hf
theorem m_loadType (h : zMP b f ad z) (g : zG z) {i fr hd_ : Nat} (e : zE z i fr hd_) {post : xhp → Prop} (hp : ∀ f', zMP b f' ad (va_up z.1 3 (typ (z.1 2) z.2.2.1 fr hd_ (zdig z i)), z.2) → post f') : w_Mp_loadType sk post (ad 0) (zen ad i) f := by
  refine ⟨_, ⟨_, h.2.2.1, rfl⟩, h.O0, m_load (k := 0) h g e (by decide) (fun f1 h1 => ⟨_, ⟨_, h1.2.2.1, rfl⟩, h1.vO, ?_⟩)⟩
  have b1 : zB ((fieldV (z.1 2) z.2.2.1 (xbN 0) fr hd_).getD []) := g.1.fieldV _ _ _
  refine m_keepFirstItem h1 (by dsimp only; rw [zup_self]; exact b1) (fun f2 h2 => ⟨_, ⟨_, h2.2.2.1, rfl⟩, h2.vO, ?_⟩)
  dsimp only at h2
  rw [zup_self, bx_uu] at h2
  have b2 : zB (itm ((fieldV (z.1 2) z.2.2.1 (xbN 0) fr hd_).getD [])) := b1.itm
  refine m_isType h2 (by dsimp only; rw [zup_self]; exact b2) ?_
  dsimp only
  rw [zup_self]
  refine ⟨fun c => ?_, fun c => ⟨_, ⟨_, h2.en e.1, rfl⟩, h2.O0, ?_⟩⟩
  · rw [zb_0, Bool.not_eq_false] at c
    refine hp f2 ?_
    rw [typ, ctV, if_pos c]; exact h2
  · rw [zb_0] at c
    have put : ∀ k, k < 17 → typ (z.1 2) z.2.2.1 fr hd_ (zdig z i) = xbN k → w_Mp_loadType_62 sk post (sk k) (ro ad 3) f2 := by
      intro k hk hty
      refine ⟨h2.rO (by decide), m_put h2 hk (by decide) (Nat.le_trans (Nat.le_of_lt (xbN_all k hk).2.1) (by decide)) (fun f3 h3 => hp f3 ?_)⟩
      dsimp only at h3
      rw [bx_uu, ← hty] at h3; exact h3
    have ty0 : typ (z.1 2) z.2.2.1 fr hd_ (zdig z i) = if zdig z i = true then xbN 6 else xbN 7 := by
      rw [typ, ctV, if_neg (by rw [c]; decide)]
    refine m_findE h2 g.2.2.2 ⟨_, ⟨_, h2.2.2.1, rfl⟩, _, h2.vl, fun c1 => ?_, fun a c1 => ?_⟩
    · refine put 7 (by decide) ?_
      rw [ty0, if_neg]
      unfold zdig
      cases hz : zfind z.2.2.2.1 (z.2.1 i 1) with
      | none => simp
      | some p => dsimp only at c1; rw [hz] at c1; cases c1
    · cases hz : zfind z.2.2.2.1 (z.2.1 i 1) with
      | none => dsimp only at c1; rw [hz] at c1; cases c1
      | some p =>
        dsimp only at c1
        rw [hz] at c1
        cases c1
        have hp60 : p < 60 := Nat.lt_of_lt_of_le (zfind_lt hz) g.2.2.2
        have ed : zdig z i = decide (¬ z.2.1 p 11 = 0) := by unfold zdig; rw [hz]
        refine ⟨_, ⟨_, h2.en hp60, rfl⟩, fun c2 => put 7 (by decide) ?_, fun c2 => put 6 (by decide) ?_⟩
        · rw [ty0, ed, if_neg]; simp; exact c2
        · rw [ty0, ed, if_pos]; simp; exact c2
theorem m_loadCod (h : zMP b f ad z) (g : zG z) {i fr hd_ : Nat} (e : zE z i fr hd_) {post : Int32 → xhp → Prop} (hp : ∀ r f', zMP b f' ad (va_up z.1 3 (cod (z.1 2) z.2.2.1 fr hd_), z.2) → post r f') : w_Mp_loadField (fun r3 f2 => ∃ a4 : Nat, xV f2 (ad 0) 4 3 (.ref a4) ∧ xO f2 a4 3 ∧ w_Va_keepFirstItem (fun f5 => post r3 f5) a4 f2) (ad 0) (zen ad i) (ro ad 5) f := by
  refine m_load (k := 1) h g e (by decide) (fun f1 h1 => ⟨_, ⟨_, h1.2.2.1, rfl⟩, h1.vO, ?_⟩)
  have b1 : zB ((fieldV (z.1 2) z.2.2.1 (xbN 1) fr hd_).getD []) := g.1.fieldV _ _ _
  refine m_keepFirstItem h1 (by dsimp only; rw [zup_self]; exact b1) (fun f2 h2 => hp _ f2 ?_)
  dsimp only at h2
  rw [zup_self, bx_uu] at h2
  exact h2
theorem m_isOpenCoding (h : zMP b f ad z) (g : zG z) {i fr hd_ : Nat} (e : zE z i fr hd_) {post : Int32 → xhp → Prop} (hp : ∀ f', zMP b f' ad (va_up z.1 3 (cod (z.1 2) z.2.2.1 fr hd_), z.2) → post (zb (opn (cod (z.1 2) z.2.2.1 fr hd_))) f') : w_Mp_isOpenCoding sk post (ad 0) (zen ad i) f := by
  have bC : zB (cod (z.1 2) z.2.2.1 fr hd_) := (g.1.fieldV _ _ _).itm
  refine ⟨_, ⟨_, h.2.2.1, rfl⟩, h.O0, m_loadCod h g e (fun r f2 h2 => ⟨_, ⟨_, h2.2.2.1, rfl⟩, _, h2.vl, _, h2.sz (by decide), ?_⟩)⟩
  have hp2 := hp f2 h2
  have hlen := h2.len (j := 3) (by decide)
  dsimp only at hlen ⊢
  have e3 : (va_up z.1 3 (cod (z.1 2) z.2.2.1 fr hd_)) 3 = cod (z.1 2) z.2.2.1 fr hd_ := zup_self _ _ _
  rw [e3] at hlen ⊢
  have e0 : nI (cod (z.1 2) z.2.2.1 fr hd_).length = (0 : Int32) ↔ (cod (z.1 2) z.2.2.1 fr hd_).length = 0 := nI_eq (b := 0) (by omega) (by omega)
  have bC2 : zB ((va_up z.1 3 (cod (z.1 2) z.2.2.1 fr hd_), z.2).1 3) := by dsimp only; rw [e3]; exact bC
  unfold opn at hp2
  refine ⟨fun c => ?_, fun c => ⟨h2.rO (by decide), m_is h2 (by decide) (by decide) bC2 ?_⟩⟩
  · rw [e0] at c
    rw [decide_eq_true c, Bool.true_or] at hp2; exact ⟨Or.inr rfl, hp2⟩
  · rw [e0] at c
    rw [decide_eq_false c, Bool.false_or] at hp2
    dsimp only
    rw [e3]
    refine ⟨fun c1 => ?_, fun c1 => ⟨h2.rO (by decide), m_is h2 (by decide) (by decide) bC2 ?_⟩⟩
    · rw [zb_0, Bool.not_eq_false] at c1
      rw [c1, Bool.true_or] at hp2; exact ⟨Or.inr rfl, hp2⟩
    · rw [zb_0] at c1
      rw [c1, Bool.false_or] at hp2
      dsimp only
      rw [e3]
      refine ⟨fun c2 => ?_, fun c2 => ⟨h2.rO (by decide), m_is h2 (by decide) (by decide) bC2 ?_⟩⟩
      · rw [zb_0, Bool.not_eq_false] at c2
        rw [c2, Bool.true_or] at hp2; exact ⟨Or.inr rfl, hp2⟩
      · rw [zb_0] at c2
        rw [c2, Bool.false_or] at hp2
        dsimp only
        rw [e3]
        refine ⟨fun c3 => ?_, fun c3 => ?_⟩
        · rw [zb_0] at c3
          rw [c3] at hp2; exact ⟨Or.inl rfl, hp2⟩
        · rw [zb_0, Bool.not_eq_false] at c3
          rw [c3] at hp2; exact ⟨Or.inr rfl, hp2⟩
theorem m_loadName (h : zMP b f ad z) (g : zG z) {i fr hd_ : Nat} (e : zE z i fr hd_) {post : xhp → Prop} (hp : ∀ f', zMP b f' ad (va_up z.1 3 (nam (z.1 2) z.2.2.1 fr hd_), z.2) → post f') : w_Mp_loadName post (ad 0) (zen ad i) f := by
  refine ⟨_, ⟨_, h.2.2.1, rfl⟩, h.O0, m_load (k := 2) h g e (by decide) (fun f1 h1 => ⟨_, ⟨_, h1.2.2.1, rfl⟩, _, ⟨_, h1.2.2.1, rfl⟩, h1.vO, ?_⟩)⟩
  have b1 : zB ((fieldV (z.1 2) z.2.2.1 (xbN 2) fr hd_).getD []) := g.1.fieldV _ _ _
  have g1 := g.up3 (j := 3) ((fieldV (z.1 2) z.2.2.1 (xbN 2) fr hd_).getD []) (by decide) (by decide)
  have e8 := g1.2.2.1 4 (by decide)
  have e33 : (va_up z.1 3 ((fieldV (z.1 2) z.2.2.1 (xbN 2) fr hd_).getD []), z.2).1 3 = (fieldV (z.1 2) z.2.2.1 (xbN 2) fr hd_).getD [] := by dsimp only; exact zup_self _ _ _
  refine m_keepParam h1 (i := 8) (by decide) (by decide) (by rw [e33]; exact b1) (by rw [show (8 : Nat) = 4 + 4 from rfl, e8]; exact xbN_zB (by decide)) (fun L hL f2 h2 => ?_) (fun hn f2 h2 => ?_)
  · rw [e33, show (8 : Nat) = 4 + 4 from rfl, e8] at hL
    refine ⟨fun _ => hp f2 ?_, fun c => absurd c (by decide)⟩
    dsimp only at h2
    rw [bx_uu] at h2
    rw [nam, dspV, hL]; exact h2
  · rw [e33, show (8 : Nat) = 4 + 4 from rfl, e8] at hn
    refine ⟨fun c => absurd rfl c, fun _ => ⟨_, ⟨_, h2.2.2.1, rfl⟩, h2.O0, ?_⟩⟩
    dsimp only at h2
    rw [bx_uu] at h2
    have g2 := g.up3 (j := 3) [] (by decide) (by decide)
    have e22 : (va_up z.1 3 [], z.2).1 2 = z.1 2 := by dsimp only; exact zup_ne _ _ (by decide)
    refine m_load (k := 0) h2 g2 (i := i) (fr := fr) (hd_ := hd_) e (by decide) (fun f3 h3 => ⟨_, ⟨_, h3.2.2.1, rfl⟩, _, ⟨_, h3.2.2.1, rfl⟩, h3.vO, ?_⟩)
    rw [e22] at h3
    dsimp only at h3
    rw [bx_uu] at h3
    have b3 : zB ((fieldV (z.1 2) z.2.2.1 (xbN 0) fr hd_).getD []) := g.1.fieldV _ _ _
    have g3 := g.up3 (j := 3) ((fieldV (z.1 2) z.2.2.1 (xbN 0) fr hd_).getD []) (by decide) (by decide)
    have e9 := g3.2.2.1 5 (by decide)
    have e34 : (va_up z.1 3 ((fieldV (z.1 2) z.2.2.1 (xbN 0) fr hd_).getD []), z.2).1 3 = (fieldV (z.1 2) z.2.2.1 (xbN 0) fr hd_).getD [] := by dsimp only; exact zup_self _ _ _
    refine m_keepParam h3 (i := 9) (by decide) (by decide) (by rw [e34]; exact b3) (by rw [show (9 : Nat) = 4 + 5 from rfl, e9]; exact xbN_zB (by decide)) (fun L hL f4 h4 => hp f4 ?_) (fun hn2 f4 h4 => hp f4 ?_)
    · rw [e34, show (9 : Nat) = 4 + 5 from rfl, e9] at hL
      dsimp only at h4
      rw [bx_uu] at h4
      rw [nam, dspV, hn, ctV, hL]; exact h4
    · rw [e34, show (9 : Nat) = 4 + 5 from rfl, e9] at hn2
      dsimp only at h4
      rw [bx_uu] at h4
      rw [nam, dspV, hn, ctV, hn2]; exact h4
/-- hasBoundary: 1 .. 70 bytes; then it is kept, by the depth -/
theorem m_hasBoundary (h : zMP b f ad z) (g : zG z) {i fr hd_ dp : Nat} (e : zE z i fr hd_) (hdp : z.2.1 i 2 = nI dp) (hd8 : dp < 8) {post : Int32 → xhp → Prop} (hp1 : 1 ≤ (bnd (z.1 2) z.2.2.1 fr hd_).length ∧ (bnd (z.1 2) z.2.2.1 fr hd_).length ≤ 70 → ∀ f', zMP b f' ad (va_up (va_up z.1 3 (bnd (z.1 2) z.2.2.1 fr hd_)) (12 + dp) (bnd (z.1 2) z.2.2.1 fr hd_), z.2) → post 1 f') (hp0 : ¬ (1 ≤ (bnd (z.1 2) z.2.2.1 fr hd_).length ∧ (bnd (z.1 2) z.2.2.1 fr hd_).length ≤ 70) → ∀ f', zMP b f' ad (va_up z.1 3 (bnd (z.1 2) z.2.2.1 fr hd_), z.2) → post 0 f') : w_Mp_hasBoundary post (ad 0) (zen ad i) f := by
  refine ⟨_, ⟨_, h.2.2.1, rfl⟩, h.O0, m_load (k := 0) h g e (by decide) (fun f1 h1 => ⟨_, ⟨_, h1.2.2.1, rfl⟩, _, ⟨_, h1.2.2.1, rfl⟩, h1.vO, ?_⟩)⟩
  have b1 : zB ((fieldV (z.1 2) z.2.2.1 (xbN 0) fr hd_).getD []) := g.1.fieldV _ _ _
  have g1 := g.up3 (j := 3) ((fieldV (z.1 2) z.2.2.1 (xbN 0) fr hd_).getD []) (by decide) (by decide)
  have e7 := g1.2.2.1 3 (by decide)
  have e33 : (va_up z.1 3 ((fieldV (z.1 2) z.2.2.1 (xbN 0) fr hd_).getD []), z.2).1 3 = (fieldV (z.1 2) z.2.2.1 (xbN 0) fr hd_).getD [] := by dsimp only; exact zup_self _ _ _
  refine m_keepParam h1 (i := 7) (by decide) (by decide) (by rw [e33]; exact b1) (by rw [show (7 : Nat) = 4 + 3 from rfl, e7]; exact xbN_zB (by decide)) (fun L hL f2 h2 => ?_) (fun hn f2 h2 => ?_)
  all_goals
    replace h2 : zMP b f2 ad (va_up z.1 3 (bnd (z.1 2) z.2.2.1 fr hd_), z.2) := by
      first
      | (rw [e33, show (7 : Nat) = 4 + 3 from rfl, e7] at hL; dsimp only at h2; rw [bx_uu] at h2; rw [bnd, ctV, hL]; exact h2)
      | (rw [e33, show (7 : Nat) = 4 + 3 from rfl, e7] at hn; dsimp only at h2; rw [bx_uu] at h2; rw [bnd, ctV, hn]; exact h2)
    have e3 : (va_up z.1 3 (bnd (z.1 2) z.2.2.1 fr hd_), z.2).1 3 = bnd (z.1 2) z.2.2.1 fr hd_ := by dsimp only; exact zup_self _ _ _
    have hlen := h2.len (j := 3) (by decide)
    rw [e3] at hlen
    have a1 : nI (bnd (z.1 2) z.2.2.1 fr hd_).length < (1 : Int32) ↔ (bnd (z.1 2) z.2.2.1 fr hd_).length < 1 := nI_ltI (b := 1) (by omega) (by omega)
    have a2 : (70 : Int32) < nI (bnd (z.1 2) z.2.2.1 fr hd_).length ↔ 70 < (bnd (z.1 2) z.2.2.1 fr hd_).length := nI_ltI (a := 70) (by omega) (by omega)
    obtain ⟨gb, hb, hgb⟩ := h2.2.2.2.2.2.2.2.1
    refine ⟨_, ⟨_, h2.2.2.1, rfl⟩, _, h2.vl, _, h2.sz (by decide), ?_⟩
    rw [e3]
    refine ⟨fun c => ⟨Or.inl rfl, hp0 (fun hh => ?_) f2 h2⟩, fun c => ⟨fun c2 => ⟨Or.inl rfl, hp0 (fun hh => ?_) f2 h2⟩, fun c2 => ⟨nI dp, ⟨_, h2.en e.1, by rw [← hdp]; rfl⟩, fun c3 => absurd c3 (nI_pos (by omega)), fun c3 => ⟨nI dp, ⟨_, h2.en e.1, by rw [← hdp]; rfl⟩, _, ⟨_, h2.2.2.1, rfl⟩, _, _, _, hb, by decide, fun c4 => ?_, fun c4 => absurd (nI_lt (by omega) (by omega)) c4⟩⟩⟩⟩
    · rw [a1] at c; omega
    · rw [a2] at c2; omega
    · rw [a1] at c; rw [a2] at c2
      refine ⟨_, ⟨_, h2.2.2.1, rfl⟩, nI dp, ⟨_, h2.en e.1, by rw [← hdp]; rfl⟩, 1, 2, _, _, hb, Or.inl ⟨rfl, rfl⟩, vp_in_nI hd8 (by omega), fun r er => ⟨ro ad (12 + dp), ?_, h2.rO (by omega), m_clear (by omega) h2 (fun f3 h3 => ?_)⟩⟩
      · rw [er, nI_clamp (by omega), hgb dp hd8]
      · obtain ⟨gb3, hb3, hgb3⟩ := h3.2.2.2.2.2.2.2.1
        refine ⟨_, ⟨_, h3.2.2.1, rfl⟩, nI dp, ⟨_, h3.en e.1, by rw [← hdp]; rfl⟩, 1, 2, _, _, hb3, Or.inl ⟨rfl, rfl⟩, vp_in_nI hd8 (by omega), fun r er => ⟨_, ⟨_, h3.2.2.1, rfl⟩, _, h3.vl, ro ad (12 + dp), ?_, h3.rO (by omega), ?_⟩⟩
        · rw [er, nI_clamp (by omega), hgb3 dp hd8]
        · have e4 : (va_up (va_up z.1 3 (bnd (z.1 2) z.2.2.1 fr hd_)) (12 + dp) []) 3 = bnd (z.1 2) z.2.2.1 fr hd_ := by rw [zup_ne _ _ (by omega), zup_self]
          have ecap : zcap (12 + dp) = 70 := by unfold zcap; simp
          refine m_addRange (i := 3) (a := 0) (by decide) (by omega) (by omega) h3 (Nat.zero_le _) (by dsimp only; rw [e4]; exact Nat.le_refl _) (by dsimp only; rw [zup_self, ecap]; simp; omega) (fun f4 h4 => ⟨Or.inr rfl, hp1 ⟨by omega, by omega⟩ f4 ?_⟩)
          dsimp only at h4
          rw [e4, zup_self, bx_uu, List.nil_append] at h4
          have es : sub (bnd (z.1 2) z.2.2.1 fr hd_) 0 (bnd (z.1 2) z.2.2.1 fr hd_).length = bnd (z.1 2) z.2.2.1 fr hd_ := by simp [sub]
          rw [es] at h4
          exact h4
end ZQ
