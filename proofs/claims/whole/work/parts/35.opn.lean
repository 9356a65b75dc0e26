/-! openEntity, by depth -/
section ZO3
variable {b : xhp} {ad sk : Nat → Nat} {M : List Nat} {K : List (Nat × Nat)}
theorem zG_of {r r' : Nat → List Nat} {E E' : Nat → Nat → Int32} {ls : List (Nat × Nat)} {m m' l l' dp : Nat} (g : zG (r, E, ls, m, l)) (hr : ∀ j, j ≠ 3 → j < 12 → r' j = r j) (hm : m' ≤ 60) : zG (r', E', ls, m', l') := by
  obtain ⟨g1, g2, g3, g4⟩ := g
  have e2 : r' 2 = r 2 := hr 2 (by decide) (by omega)
  refine ⟨by dsimp only; rw [e2]; exact g1, by dsimp only; rw [e2]; exact g2, fun k hk => ?_, hm⟩
  dsimp only
  rw [hr _ (by omega) (by omega)]; exact g3 k hk
theorem decz {x : Int32} {q : Bool} (h : x = zb q) : decide (¬ x = 0) = q := by subst h; cases q <;> rfl
/-- behind the first writes: the body's begin, what is around, describe and what is in it -/
theorem m_o147 {n : Nat} {t : eT} {r : Nat → List Nat} {E : Nat → Nat → Int32} {w : Nat → Int32} {R : List eT} {lost : Nat} {f : xhp} {post : xhp → Prop} (IH : zOp b ad M K n (t.2.1 + 1) (wr_Mp_openEntity sk n)) (h : zMP b f ad (r, va_up E R.length w, K, R.length + 1, lost)) (g : zG (r, E, K, R.length, lost)) (hM : r 2 = M) (hW : zW M K (r, E, K, R.length, lost) R lost) (ok : tOK M K R R.length t) (hd8 : t.2.1 ≤ 8) (h60 : R.length < 60) (e1 : w 1 = iI t.1) (e2 : w 2 = nI t.2.1) (e4 : w 4 = nI t.2.2.1) (e5 : w 5 = nI (tH M K t)) (e7 : w 7 = nI t.2.2.2.1) (e8 : w 8 = 0) (e9 : w 9 = -1) (hp : ∀ f' z', zQ b ad M K f' z' ((kids M K t R.length).foldl (fun s t => opE M K n t s) (R ++ [t], lost)).1 ((kids M K t R.length).foldl (fun s t => opE M K n t s) (R ++ [t], lost)).2 → (∀ j, j ≠ 3 → j < 12 + t.2.1 → z'.1 j = r j) → post f') : w_Mp_openEntity_147 sk (wr_Mp_openEntity sk n) post (ad 0) (nI t.2.2.2.1) (iI t.1) (nI t.2.1) (nI R.length) (zen ad R.length) (nI (tB M K t)) (zen ad R.length) f := by
  have hKl : K.length ≤ 1500 := h.2.2.2.2.1.1
  have hH := tH_le M K ok.2.1
  have hB := tB_le M K ok.2.1
  have hto := ok.2.2.1
  refine m_wr h h60 (by decide) (fun f2 h2 => ⟨h2.O0, m_findE h2 (by dsimp only; omega) ?_⟩)
  obtain ⟨w9, hw9⟩ : ∃ w9, w9 = va_up w 6 (nI (tB M K t)) := ⟨_, rfl⟩
  rw [← hw9] at h2
  have k9 : ∀ k, k ≠ 6 → w9 k = w k := fun k hk => by rw [hw9, zup_ne _ _ hk]
  have k96 : w9 6 = nI (tB M K t) := by rw [hw9, zup_self]
  clear h
  -- from describe on, whatever is around
  have go : ∀ f3 E3, zMP b f3 ad (r, E3, K, R.length + 1, lost) → E3 R.length = w9 → (∀ i, i < R.length → ∀ k, k ≠ 8 → E3 i k = E i k) → (∀ i, i < R.length → E3 i 8 = E i 8 + if t.1 = i + 1 then 1 else 0) → w_Mp_openEntity_173 sk (wr_Mp_openEntity sk n) post (ad 0) (nI t.2.2.2.1) (nI t.2.1) (nI R.length) (zen ad R.length) f3 := by
    intro f3 E3 h3 hme hE hE8
    have gz : zG (r, E3, K, R.length + 1, lost) := zG_of (dp := 0) g (fun _ _ _ => rfl) (by omega)
    have ez : zE (r, E3, K, R.length + 1, lost) R.length t.2.2.1 (tH M K t) := by
      refine ⟨h60, ?_, ?_, by omega, by omega⟩
      · dsimp only; rw [hme, k9 4 (by decide)]; exact e4
      · dsimp only; rw [hme, k9 5 (by decide)]; exact e5
    have edg : zdig (r, E3, K, R.length + 1, lost) R.length = t.2.2.2.2 := by
      unfold zdig
      dsimp only
      rw [hme, k9 1 (by decide), e1]
      by_cases q : t.1 = 0
      · rw [show iI t.1 = -1 by rw [q]; rfl, zfind_m1]
        dsimp only
        exact (ok.2.2.2.1 q).2.1.symm
      · have hq : t.1 - 1 < R.length := by have := ok.1; omega
        rw [show iI t.1 = nI (t.1 - 1) by unfold iI; rw [if_neg q], zfind_nI (by omega) (by omega)]
        dsimp only
        have aD := (hW.2.2.2 (t.1 - 1) hq).2.2.2.2.2.2.2.2.2.2
        exact (decz ((hE _ hq 11 (by decide)).trans aD.2.2.2.1)).trans (ok.2.2.2.2 (by omega)).2.1.symm
    have hM' : (r, E3, K, R.length + 1, lost).1 2 = M := hM
    refine ⟨h3.O0, m_describe h3 gz ez (by dsimp only; rw [hme, k9 2 (by decide)]; exact e2) hd8 (gz.1.typ _ _ _) (fun f4 r4 w4 h4 hr4 hb4 hD hk4 => ?_)⟩
    rw [edg] at hb4 hD
    dsimp only at h4 hr4 hb4 hD hk4
    rw [hM] at hb4 hD
    rw [hme] at hk4
    have eW : zW M K (r4, va_up E3 R.length w4, K, R.length + 1, lost) (R ++ [t]) lost := by
      refine zW_new hW ok hd8 h60 ?_ (fun i hi k hk => by rw [zup_ne _ _ (by omega)]; exact hE i hi k hk) (fun i hi => by rw [zup_ne _ _ (by omega)]; exact hE8 i hi)
      rw [zup_self]
      refine ⟨?_, ?_, ?_, ?_, ?_, ?_, ?_, ?_, hD⟩
      · rw [hk4 1 (by decide), k9 1 (by decide)]; exact e1
      · rw [hk4 2 (by decide), k9 2 (by decide)]; exact e2
      · rw [hk4 4 (by decide), k9 4 (by decide)]; exact e4
      · rw [hk4 5 (by decide), k9 5 (by decide)]; exact e5
      · rw [hk4 6 (by decide)]; exact k96
      · rw [hk4 7 (by decide), k9 7 (by decide)]; exact e7
      · rw [hk4 8 (by decide), k9 8 (by decide), e8, cnt_new (M := M) (K := K) (fun i hi => (hW.2.2.2 i hi).1.1) ok.1]; rfl
      · rw [hk4 9 (by decide), k9 9 (by decide)]; exact e9
    have hM4 : r4 2 = M := by rw [hr4 2 (by decide) (by omega)]; exact hM
    have hQ : zQ b ad M K f4 (r4, va_up E3 R.length w4, K, R.length + 1, lost) (R ++ [t]) lost := ⟨h4, zG_of (dp := 0) g (fun j n3 nj => hr4 j n3 (by omega)) (by omega), hM4, rfl, eW⟩
    have hk0 : w4 0 = nI (tK M K t) := hD.1
    have hkle : tK M K t ≤ 2 := kdH_le _ _ _ _ _ _
    have q1 : nI (tK M K t) = (1 : Int32) ↔ tK M K t = 1 := nI_eq (b := 1) (by omega) (by omega)
    have q2 : nI (tK M K t) = (2 : Int32) ↔ tK M K t = 2 := nI_eq (b := 2) (by omega) (by omega)
    have hd0 : tK M K t ≠ 0 → t.2.1 < 8 := by
      intro q
      unfold tK kdH at q
      split at q
      · assumption
      · exact absurd rfl q
    have hdeq : nI t.2.1 + 1 = nI (t.2.1 + 1) := nI_1 _
    refine ⟨nI (tK M K t), h4.ef h60 (by decide) hk0, fun c => ⟨nI (tK M K t), h4.ef h60 (by decide) hk0, fun c2 => ?_, fun c2 => ⟨nI (tB M K t), h4.ef h60 (by decide) (by rw [hk4 6 (by decide)]; exact k96), h4.O0, ?_⟩⟩, fun c => ⟨h4.O0, ?_⟩⟩
    · rw [q1] at c; rw [q2] at c2
      refine hp f4 (r4, va_up E3 R.length w4, K, R.length + 1, lost) ?_ (fun j n3 nj => hr4 j n3 (by omega))
      rw [show kids M K t R.length = [] by unfold kids; rw [if_neg c, if_neg c2]]
      exact hQ
    · rw [q1] at c; rw [q2] at c2
      have okk : tOK M K (R ++ [t]) (R ++ [t]).length (kid M K t R.length (tB M K t, t.2.2.2.1)) := by
        refine ⟨by unfold kid; simp, hB.2, hto, fun q => absurd q (by unfold kid; simp), fun _ => ?_⟩
        unfold kid; dsimp only
        rw [Nat.add_sub_cancel, app_eq]
        exact ⟨rfl, rfl, by omega⟩
      rw [hdeq]
      refine IH (kid M K t R.length (tB M K t, t.2.2.2.1)) _ f4 (R ++ [t]) lost _ hQ okk rfl (fun f' z' hz hr => hp f' z' ?_ (fun j n3 nj => ?_))
      · rw [show kids M K t R.length = [kid M K t R.length (tB M K t, t.2.2.2.1)] by unfold kids; rw [if_neg c, if_pos c2]]
        exact hz
      · rw [hr j n3 (by omega)]; exact hr4 j n3 (by omega)
    · rw [q1] at c
      refine m_openParts (n0 := n) IH (hd0 (by omega)) (by omega) _ f4 (R ++ [t]) lost hQ (by simp) app_eq (hb4 c) (fun f' z' hz hr => hp f' z' ?_ (fun j n3 nj => ?_))
      · rw [show kids M K t R.length = (prt M K (tN M K t) t.2.2.2.1 (t.2.2.2.1 - tB M K t) (tB M K t) none).map (kid M K t R.length) by unfold kids; rw [if_pos c]]
        exact hz
      · rw [hr j n3 (by omega)]; exact hr4 j n3 (by omega)
  dsimp only
  by_cases q : t.1 = 0
  · rw [show iI t.1 = -1 by rw [q]; rfl, zfind_m1]
    refine ⟨fun _ => go f2 _ h2 (zup_self _ _ _) (fun i hi k hk => by rw [zup_ne _ _ (by omega)]) (fun i hi => by rw [zup_ne _ _ (by omega), if_neg (by omega)]; simp), fun a c => by cases c⟩
  · have hq : t.1 - 1 < R.length := by have := ok.1; omega
    rw [show iI t.1 = nI (t.1 - 1) by unfold iI; rw [if_neg q], zfind_nI (by omega) (by omega)]
    refine ⟨fun c => (by cases c), fun a c => ?_⟩
    cases c
    have h3 := h2.e0 (t.1 - 1)
    refine ⟨_, h3.ef (by omega) (by decide) rfl, m_wr h3 (by omega) (by decide) (fun f4 h4 => go f4 _ h4 ?_ (fun i hi k hk => ?_) (fun i hi => ?_))⟩
    · rw [zup_ne _ _ (by omega), zup_self]
    · by_cases e : i = t.1 - 1
      · subst e
        rw [zup_self, zup_ne _ _ hk, zup_ne _ _ (by omega)]
      · rw [zup_ne _ _ e, zup_ne _ _ (by omega)]
    · by_cases e : i = t.1 - 1
      · subst e
        rw [zup_self, zup_self, zup_ne _ _ (by omega), if_pos (by omega)]
      · rw [zup_ne _ _ e, zup_ne _ _ (by omega), if_neg (by omega)]; simp
end ZO3
