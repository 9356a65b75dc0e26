/-! what stands of an ENTITY, by its HEAD fr .. h, its depth and whether it is in a digest -/
def kdH (M : List Nat) (K : List (Nat × Nat)) (fr h dp : Nat) (dg : Bool) : Nat := if dp < 8 then (if pfx (typ M K fr h dg) (xbN 10) = true ∧ 1 ≤ (bnd M K fr h).length ∧ (bnd M K fr h).length ≤ 70 then 1 else if isW (typ M K fr h dg) (xbN 6) = true ∧ opn (cod M K fr h) = true then 2 else 0) else 0
def hgH (M : List Nat) (K : List (Nat × Nat)) (fr h : Nat) : Bool := isW (itm (dspV M K fr h)) (xbN 13)
def txH (M : List Nat) (K : List (Nat × Nat)) (fr h : Nat) (dg : Bool) : Bool := pfx (typ M K fr h dg) (xbN 8)
def htH (M : List Nat) (K : List (Nat × Nat)) (fr h : Nat) (dg : Bool) : Bool := isW (typ M K fr h dg) (xbN 9)
def alH (M : List Nat) (K : List (Nat × Nat)) (fr h : Nat) (dg : Bool) : Bool := isW (typ M K fr h dg) (xbN 11)
def dgH (M : List Nat) (K : List (Nat × Nat)) (fr h : Nat) (dg : Bool) : Bool := isW (typ M K fr h dg) (xbN 12)
/-- what describe leaves in an ENTITY -/
def zD (M : List Nat) (K : List (Nat × Nat)) (fr h dp : Nat) (dg : Bool) (w : Nat → Int32) : Prop :=
  w 0 = nI (kdH M K fr h dp dg) ∧ w 3 = zb (hgH M K fr h) ∧ w 10 = zb (alH M K fr h dg) ∧ w 11 = zb (dgH M K fr h dg) ∧ w 12 = zb (decide (kdH M K fr h dp dg = 0) && (hgH M K fr h || !(txH M K fr h dg))) ∧ w 13 = zb (decide (kdH M K fr h dp dg = 0) && (txH M K fr h dg && !(hgH M K fr h))) ∧ w 14 = zb ((decide (kdH M K fr h dp dg = 0) && (txH M K fr h dg && !(hgH M K fr h))) && htH M K fr h dg) ∧ w 15 = -1
theorem kdH_le (M : List Nat) (K : List (Nat × Nat)) (fr h dp : Nat) (dg : Bool) : kdH M K fr h dp dg ≤ 2 := by
  unfold kdH; repeat' split
  all_goals omega
section ZE
variable {b f : xhp} {ad sk : Nat → Nat} {z : zS}
/-- describe: entity i's fields; the value's row and one boundary's row are others behind it -/
theorem m_describe (h : zMP b f ad z) (g : zG z) {i fr hd_ dp : Nat} (e : zE z i fr hd_) (hdp : z.2.1 i 2 = nI dp) (hd8 : dp ≤ 8) (hty : zB (typ (z.1 2) z.2.2.1 fr hd_ (zdig z i))) {post : xhp → Prop} (hp : ∀ f' r w, zMP b f' ad (r, va_up z.2.1 i w, z.2.2) → (∀ j, j ≠ 3 → j ≠ 12 + dp → r j = z.1 j) → (kdH (z.1 2) z.2.2.1 fr hd_ dp (zdig z i) = 1 → r (12 + dp) = bnd (z.1 2) z.2.2.1 fr hd_) → zD (z.1 2) z.2.2.1 fr hd_ dp (zdig z i) w → (∀ k, k = 1 ∨ k = 2 ∨ (4 ≤ k ∧ k ≤ 9) ∨ k = 16 → w k = z.2.1 i k) → post f') : w_Mp_describe sk post (ad 0) (zen ad i) f := by
  obtain ⟨r, E, t⟩ := z
  refine ⟨h.O0, m_loadType h g e (fun f1 h1 => ?_)⟩
  have hi := e.1
  have c20 : (3 : Nat) < 20 := by decide
  generalize hdg : zdig (r, E, t) i = dg at *
  dsimp only at *
  have e3 : (va_up r 3 (typ (r 2) t.1 fr hd_ dg), E, t).1 3 = typ (r 2) t.1 fr hd_ dg := by dsimp only; exact zup_self _ _ _
  have B1 : zB ((va_up r 3 (typ (r 2) t.1 fr hd_ dg), E, t).1 3) := by rw [e3]; exact hty
  refine ⟨_, ⟨_, h1.2.2.1, rfl⟩, _, h1.vl, h1.rO c20, m_begins h1 (by decide) c20 B1 ⟨_, ⟨_, h1.2.2.1, rfl⟩, _, h1.vl, h1.rO c20, m_is h1 (by decide) c20 B1 ⟨_, ⟨_, h1.2.2.1, rfl⟩, _, h1.vl, h1.rO c20, m_begins h1 (by decide) c20 B1 ⟨_, ⟨_, h1.2.2.1, rfl⟩, _, h1.vl, h1.rO c20, m_is h1 (by decide) c20 B1 ⟨_, ⟨_, h1.2.2.1, rfl⟩, _, h1.vl, h1.rO c20, m_is h1 (by decide) c20 B1 ⟨zb_xz _, m_wr (h1.e0 i) hi (by decide) (fun f2 h2 => ?_)⟩⟩⟩⟩⟩⟩
  rw [e3] at h2 ⊢
  have B2 : zB ((va_up r 3 (typ (r 2) t.1 fr hd_ dg), va_up E i (va_up (E i) 10 (zb (isW (typ (r 2) t.1 fr hd_ dg) (xbN 11)))), t).1 3) := by dsimp only; rw [zup_self]; exact hty
  refine ⟨_, ⟨_, h2.2.2.1, rfl⟩, _, h2.vl, h2.rO c20, m_is h2 (by decide) c20 B2 ⟨zb_xz _, m_wr h2 hi (by decide) (fun f3 h3 => ⟨_, ⟨_, h3.2.2.1, rfl⟩, h3.O0, ?_⟩)⟩⟩
  have e3' : (va_up r 3 (typ (r 2) t.1 fr hd_ dg), va_up E i (va_up (E i) 10 (zb (isW (typ (r 2) t.1 fr hd_ dg) (xbN 11)))), t).1 3 = typ (r 2) t.1 fr hd_ dg := by dsimp only; exact zup_self _ _ _
  rw [e3'] at h3
  obtain ⟨w1, hw1⟩ : ∃ w1, w1 = va_up (va_up (E i) 10 (zb (isW (typ (r 2) t.1 fr hd_ dg) (xbN 11)))) 11 (zb (isW (typ (r 2) t.1 fr hd_ dg) (xbN 12))) := ⟨_, rfl⟩
  rw [← hw1] at h3
  have k1 : ∀ k, k ≠ 10 → k ≠ 11 → w1 k = E i k := fun k n1 n2 => by rw [hw1, zup_ne _ _ n2, zup_ne _ _ n1]
  have k10 : w1 10 = zb (alH (r 2) t.1 fr hd_ dg) := by rw [hw1, zup_ne _ _ (by decide), zup_self]; rfl
  have k11 : w1 11 = zb (dgH (r 2) t.1 fr hd_ dg) := by rw [hw1, zup_self]; rfl
  have gz : ∀ (r' : Nat → List Nat) (E' : Nat → Nat → Int32), (∀ j, j ≠ 3 → j ≠ 12 + dp → r' j = r j) → zG (r', E', t) := by
    intro r' E' hr
    obtain ⟨g1, g2, g3, g4⟩ := g
    have e2 : r' 2 = r 2 := hr 2 (by decide) (by omega)
    refine ⟨by dsimp only; rw [e2]; exact g1, by dsimp only; rw [e2]; exact g2, fun k hk => ?_, g4⟩
    dsimp only
    rw [hr _ (by omega) (by omega)]; exact g3 k hk
  have ez : ∀ (r' : Nat → List Nat) (w' : Nat → Int32), w' 4 = E i 4 → w' 5 = E i 5 → zE (r', va_up E i w', t) i fr hd_ := by
    intro r' w' h4 h5
    refine ⟨hi, ?_, ?_, e.2.2.2⟩
    · dsimp only; rw [zup_self, h4]; exact e.2.1
    · dsimp only; rw [zup_self, h5]; exact e.2.2.1
  have rr : ∀ (L : List Nat) j, j ≠ 3 → j ≠ 12 + dp → va_up r 3 L j = r j := fun L j h1 _ => zup_ne _ _ h1
  have r2 : ∀ (L : List Nat), va_up r 3 L 2 = r 2 := fun L => zup_ne _ _ (by decide)
  refine m_load (k := 2) h3 (gz _ _ (rr _)) (ez _ _ (k1 4 (by decide) (by decide)) (k1 5 (by decide) (by decide))) (by decide) (fun f4 h4 => ⟨_, ⟨_, h4.2.2.1, rfl⟩, h4.vO, ?_⟩)
  dsimp only at h4
  rw [r2, bx_uu] at h4
  have bd : zB (dspV (r 2) t.1 fr hd_) := g.1.fieldV _ _ _
  refine m_keepFirstItem h4 (by dsimp only; rw [zup_self]; exact bd) (fun f5 h5 => ⟨_, ⟨_, h5.2.2.1, rfl⟩, _, h5.vl, h5.rO c20, ?_⟩)
  dsimp only at h5
  rw [zup_self, bx_uu] at h5
  refine m_is h5 (by decide) c20 (by dsimp only; rw [zup_self]; exact bd.itm) ⟨zb_xz _, m_wr h5 hi (by decide) (fun f6 h6 => m_wr h6 hi (by decide) (fun f7 h7 => ?_))⟩
  dsimp only at h6 h7 ⊢
  rw [zup_self] at h7
  obtain ⟨w2, hw2⟩ : ∃ w2, w2 = va_up w1 3 (zb (hgH (r 2) t.1 fr hd_)) := ⟨_, rfl⟩
  have h7' : zMP b f7 ad (va_up r 3 (itm (dspV (r 2) t.1 fr hd_)), va_up E i (va_up w2 0 0), t) := by rw [hw2]; exact h7
  clear h7 h6
  have k2 : ∀ k, k ≠ 10 → k ≠ 11 → k ≠ 3 → w2 k = E i k := fun k n1 n2 n3 => by rw [hw2, zup_ne _ _ n3, k1 k n1 n2]
  have k23 : w2 3 = zb (hgH (r 2) t.1 fr hd_) := by rw [hw2, zup_self]
  have k210 : w2 10 = zb (alH (r 2) t.1 fr hd_ dg) := by rw [hw2, zup_ne _ _ (by decide), k10]
  have k211 : w2 11 = zb (dgH (r 2) t.1 fr hd_ dg) := by rw [hw2, zup_ne _ _ (by decide), k11]
  -- the end: whatever the kind is
  have fin : ∀ f8 r8 w8 kd, zMP b f8 ad (r8, va_up E i w8, t) → (∀ j, j ≠ 3 → j ≠ 12 + dp → r8 j = r j) → (kd = 1 → r8 (12 + dp) = bnd (r 2) t.1 fr hd_) → w8 = va_up w2 0 (nI kd) → kd = kdH (r 2) t.1 fr hd_ dp dg → w_Mp_describe_178 sk post (zen ad i) (zb (pfx (typ (r 2) t.1 fr hd_ dg) (xbN 8))) (zb (isW (typ (r 2) t.1 fr hd_ dg) (xbN 9))) f8 := by
    intro f8 r8 w8 kd h8 hr8 hb8 hw8 hkd
    have hk2 : kd ≤ 2 := by rw [hkd]; exact kdH_le _ _ _ _ _ _
    refine m_d178 (hg := hgH (r 2) t.1 fr hd_) (kd := kd) h8 hi hk2 (by rw [hw8, zup_self]) (by rw [hw8, zup_ne _ _ (by decide), k23]) (fun f9 h9 => ?_)
    refine hp f9 r8 _ h9 hr8 (fun q => hb8 (by rw [hkd]; exact q)) ?_ ?_
    · subst hkd
      refine ⟨?_, ?_, ?_, ?_, ?_, ?_, ?_, ?_⟩
      · rw [zup_ne _ _ (by decide), zup_ne _ _ (by decide), zup_ne _ _ (by decide), zup_ne _ _ (by decide), hw8, zup_self]
      · rw [zup_ne _ _ (by decide), zup_ne _ _ (by decide), zup_ne _ _ (by decide), zup_ne _ _ (by decide), hw8, zup_ne _ _ (by decide), k23]
      · rw [zup_ne _ _ (by decide), zup_ne _ _ (by decide), zup_ne _ _ (by decide), zup_ne _ _ (by decide), hw8, zup_ne _ _ (by decide), k210]
      · rw [zup_ne _ _ (by decide), zup_ne _ _ (by decide), zup_ne _ _ (by decide), zup_ne _ _ (by decide), hw8, zup_ne _ _ (by decide), k211]
      · rw [zup_ne _ _ (by decide), zup_self]; rfl
      · rw [zup_ne _ _ (by decide), zup_ne _ _ (by decide), zup_ne _ _ (by decide), zup_self]; rfl
      · rw [zup_ne _ _ (by decide), zup_ne _ _ (by decide), zup_self]; rfl
      · rw [zup_self]
    · intro k hk
      rw [zup_ne _ _ (by omega), zup_ne _ _ (by omega), zup_ne _ _ (by omega), zup_ne _ _ (by omega), hw8, zup_ne _ _ (by omega), k2 k (by omega) (by omega) (by omega)]
  have e8 : (8 : Int32) ≤ nI dp ↔ 8 ≤ dp := nI_leI (a := 8) (by omega) (by omega)
  refine ⟨nI dp, h7'.ef hi (by decide) (by rw [zup_ne _ _ (by decide), k2 2 (by decide) (by decide) (by decide)]; exact hdp), fun c => ?_, fun c => ?_⟩
  · rw [e8] at c
    exact fin f7 _ _ 0 h7' (rr _) (fun q => absurd q (by decide)) rfl (by unfold kdH; rw [if_neg (by omega)])
  · rw [e8] at c
    have d8 : dp < 8 := by omega
    -- not a MULTI
    have nm : ¬ (pfx (typ (r 2) t.1 fr hd_ dg) (xbN 10) = true ∧ 1 ≤ (bnd (r 2) t.1 fr hd_).length ∧ (bnd (r 2) t.1 fr hd_).length ≤ 70) → ∀ f8 L8, zMP b f8 ad (va_up r 3 L8, va_up E i (va_up w2 0 0), t) → w_Mp_describe_160 sk post (ad 0) (zen ad i) (zb (pfx (typ (r 2) t.1 fr hd_ dg) (xbN 8))) (zb (isW (typ (r 2) t.1 fr hd_ dg) (xbN 9))) (zb (isW (typ (r 2) t.1 fr hd_ dg) (xbN 6))) f8 := by
      intro hn f8 L8 h8
      refine ⟨fun c1 => ?_, fun c1 => ⟨h8.O0, ?_⟩⟩
      · rw [zb_0] at c1
        refine fin f8 _ _ 0 h8 (rr _) (fun q => absurd q (by decide)) rfl ?_
        unfold kdH; rw [if_pos d8, if_neg hn, if_neg (fun q => by rw [c1] at q; exact absurd q.1 (by decide))]
      · rw [zb_n0] at c1
        refine m_isOpenCoding h8 (gz _ _ (rr _)) (ez _ _ (by rw [zup_ne _ _ (by decide), k2 4 (by decide) (by decide) (by decide)]) (by rw [zup_ne _ _ (by decide), k2 5 (by decide) (by decide) (by decide)])) (fun f9 h9 => ?_)
        dsimp only at h9 ⊢
        rw [r2] at h9 ⊢
        rw [bx_uu] at h9
        refine ⟨fun c2 => ?_, fun c2 => ?_⟩
        · rw [zb_0] at c2
          refine fin f9 _ _ 0 h9 (rr _) (fun q => absurd q (by decide)) rfl ?_
          unfold kdH; rw [if_pos d8, if_neg hn, if_neg (fun q => by rw [c2] at q; exact absurd q.2 (by decide))]
        · rw [zb_n0] at c2
          refine m_wr h9 hi (by decide) (fun f10 h10 => ?_)
          rw [bx_uu] at h10
          refine fin f10 _ _ 2 h10 (rr _) (fun q => absurd q (by decide)) rfl ?_
          unfold kdH; rw [if_pos d8, if_neg hn, if_pos ⟨c1, c2⟩]
    refine ⟨fun c1 => ?_, fun c1 => ⟨h7'.O0, ?_⟩⟩
    · rw [zb_0] at c1
      exact nm (fun q => by rw [c1] at q; exact absurd q.1 (by decide)) f7 _ h7'
    · rw [zb_n0] at c1
      refine m_hasBoundary (dp := dp) h7' (gz _ _ (rr _)) (ez _ _ (by rw [zup_ne _ _ (by decide), k2 4 (by decide) (by decide) (by decide)]) (by rw [zup_ne _ _ (by decide), k2 5 (by decide) (by decide) (by decide)])) (by dsimp only; rw [zup_self, zup_ne _ _ (by decide), k2 2 (by decide) (by decide) (by decide)]; exact hdp) d8 (fun hl f8 h8 => ⟨fun q => absurd q (by decide), fun _ => ?_⟩) (fun hl f8 h8 => ⟨fun _ => ?_, fun q => absurd rfl q⟩)
      · dsimp only at hl h8
        rw [r2] at hl h8
        rw [bx_uu] at h8
        refine m_wr h8 hi (by decide) (fun f9 h9 => ?_)
        rw [bx_uu] at h9
        refine fin f9 _ _ 1 h9 (fun j n1 n2 => by rw [zup_ne _ _ n2, zup_ne _ _ n1]) (fun _ => zup_self _ _ _) rfl ?_
        unfold kdH; rw [if_pos d8, if_pos ⟨c1, hl⟩]
      · dsimp only at hl h8
        rw [r2] at hl h8
        rw [bx_uu] at h8
        exact nm (fun q => hl q.2) f8 _ h8
end ZE
