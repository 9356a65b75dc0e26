/-! openEntity -/
section ZO2
variable {b : xhp} {ad sk : Nat → Nat} {M : List Nat} {K : List (Nat × Nat)}
theorem m_openParts {Rc : (xhp → Prop) → Nat → Int32 → Int32 → Int32 → Int32 → xhp → Prop} {n0 : Nat} {t : eT} {me : Nat} (hRc : zOp b ad M K n0 (t.2.1 + 1) Rc) (hd8 : t.2.1 < 8) (hk : tK M K t ≠ 0) {post : xhp → Prop} (z : zS) (f : xhp) (R : List eT) (lost : Nat) (hQ : zQ b ad M K f z R lost) (hme : me < R.length) (hR : R.getD me t0 = t) (hrow : z.1 (12 + t.2.1) = tN M K t) (hp : ∀ f' z', zQ b ad M K f' z' (((prt M K (tN M K t) t.2.2.2.1 (t.2.2.2.1 - tB M K t) (tB M K t) none).map (kid M K t me)).foldl (fun s t => opE M K n0 t s) (R, lost)).1 (((prt M K (tN M K t) t.2.2.2.1 (t.2.2.2.1 - tB M K t) (tB M K t) none).map (kid M K t me)).foldl (fun s t => opE M K n0 t s) (R, lost)).2 → (∀ j, j ≠ 3 → j < 12 + (t.2.1 + 1) → z'.1 j = z.1 j) → post f') : w_Mp_openParts sk Rc post (ad 0) (zen ad me) (nI me) (nI t.2.1) f := by
  have h := hQ.1
  have hW := hQ.2.2.2.2
  have hA := hW.2.2.2 me hme
  rw [hR] at hA
  obtain ⟨ok, hdp8, a1, a2, a4, a5, a6, a7, a8, a9, aD⟩ := hA
  obtain ⟨gb, hb, hgb⟩ := h.2.2.2.2.2.2.2.1
  have hB := tB_le M K ok.2.1
  have hme60 : me < 60 := by have := hW.2.2.1; omega
  refine ⟨fun c => absurd c (nI_pos (by omega)), fun _ => ⟨_, ⟨_, h.2.2.1, rfl⟩, _, _, _, hb, by decide, fun _ => ⟨_, ⟨_, h.2.2.1, rfl⟩, 1, 2, _, _, hb, Or.inl ⟨rfl, rfl⟩, vp_in_nI hd8 (by omega), fun r9 er => ⟨nI (tB M K t), h.eg hme60 (by decide) a6, (t.2.2.2.1 - tB M K t) + 1, ?_⟩⟩, fun c => absurd (nI_lt (by omega) (by omega)) c⟩⟩
  rw [nI_clamp (by omega), hgb _ hd8] at er
  subst er
  exact m_openParts_aux hRc hd8 hk (t.2.2.2.1 - tB M K t) (tB M K t) none z f R lost rfl hB.2 hQ hme hR hrow (fun a ha => by cases ha) hp
theorem zmain_made (ad : Nat → Nat) (m l : Nat) (x : Nat) : (zmain ad m l).set 14 (.int (nI x)) = zmain ad x l := rfl
theorem zmain_lost (ad : Nat → Nat) (m l : Nat) (x : Nat) : (zmain ad m l).set 15 (.int (nI x)) = zmain ad m x := rfl
theorem cnt_new {M : List Nat} {K : List (Nat × Nat)} {R : List eT} {t : eT} (h : ∀ i, i < R.length → (R.getD i t0).1 ≤ i) (ht : t.1 ≤ R.length) : (R ++ [t]).countP (fun u => u.1 == R.length + 1) = 0 := by
  rw [List.countP_eq_zero]
  intro u hu
  rw [List.mem_append] at hu
  simp only [beq_iff_eq]
  rcases hu with hu | hu
  · obtain ⟨i, hi, e⟩ := List.getElem_of_mem hu
    have := h i hi
    rw [show R.getD i t0 = u by simp [List.getD, hi, e]] at this
    omega
  · simp only [List.mem_singleton] at hu
    subst hu; omega
theorem cnt_app (R : List eT) (t : eT) (k : Nat) : (R ++ [t]).countP (fun u => u.1 == k) = R.countP (fun u => u.1 == k) + if t.1 = k then 1 else 0 := by
  rw [List.countP_append]
  congr 1
  simp [List.countP_cons]
theorem app_lt {R : List eT} {t : eT} {i : Nat} (hi : i < R.length) : (R ++ [t]).getD i t0 = R.getD i t0 := pre_get (List.prefix_append _ _) hi
theorem app_eq {R : List eT} {t : eT} : (R ++ [t]).getD R.length t0 = t := by simp [List.getD]
/-- R gets the new one -/
theorem zW_new {r r' : Nat → List Nat} {E E3 : Nat → Nat → Int32} {R : List eT} {lost : Nat} {t : eT} (hW : zW M K (r, E, K, R.length, lost) R lost) (ok : tOK M K R R.length t) (hd8 : t.2.1 ≤ 8) (h60 : R.length < 60) (hA : zA M K (R ++ [t]) R.length t (E3 R.length)) (hE : ∀ i, i < R.length → ∀ k, k ≠ 8 → E3 i k = E i k) (h8 : ∀ i, i < R.length → E3 i 8 = E i 8 + if t.1 = i + 1 then 1 else 0) : zW M K (r', E3, K, R.length + 1, lost) (R ++ [t]) lost := by
  obtain ⟨w1, w2, w3, w4⟩ := hW
  dsimp only at w4
  refine ⟨by simp, rfl, by simp; omega, fun i hi => ?_⟩
  simp only [List.length_append, List.length_cons, List.length_nil] at hi
  by_cases e : i = R.length
  · subst e
    rw [app_eq]
    exact ⟨ok.pre (List.prefix_append _ _) (Nat.le_refl _), hd8, hA⟩
  · have hi' : i < R.length := by omega
    rw [app_lt hi']
    obtain ⟨q1, q2, a1, a2, a4, a5, a6, a7, a8, a9, aD⟩ := w4 i hi'
    refine ⟨q1.pre (List.prefix_append _ _) (by omega), q2, ?_⟩
    have hk := hE i hi'
    obtain ⟨d0, d3, d10, d11, d12, d13, d14, d15⟩ := aD
    refine ⟨(hk 1 (by decide)).trans a1, (hk 2 (by decide)).trans a2, (hk 4 (by decide)).trans a4, (hk 5 (by decide)).trans a5, (hk 6 (by decide)).trans a6, (hk 7 (by decide)).trans a7, ?_, (hk 9 (by decide)).trans a9, (hk 0 (by decide)).trans d0, (hk 3 (by decide)).trans d3, (hk 10 (by decide)).trans d10, (hk 11 (by decide)).trans d11, (hk 12 (by decide)).trans d12, (hk 13 (by decide)).trans d13, (hk 14 (by decide)).trans d14, (hk 15 (by decide)).trans d15⟩
    dsimp only
    rw [h8 i hi', a8, cnt_app]
    split
    · rw [nI_1]
    · simp
end ZO2
