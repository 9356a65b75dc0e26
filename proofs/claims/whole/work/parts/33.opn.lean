/-! openParts -/
section ZO
variable {b : xhp} {ad sk : Nat → Nat} {M : List Nat} {K : List (Nat × Nat)}
theorem m_openParts_aux {Rc : (xhp → Prop) → Nat → Int32 → Int32 → Int32 → Int32 → xhp → Prop} {n0 : Nat} {t : eT} {me : Nat} (hRc : zOp b ad M K n0 (t.2.1 + 1) Rc) (hd8 : t.2.1 < 8) (hk : tK M K t ≠ 0) {post : xhp → Prop} : ∀ (n l : Nat) (bg : Option Nat) (z : zS) (f : xhp) (R : List eT) (lost : Nat), t.2.2.2.1 - l = n → l ≤ t.2.2.2.1 → zQ b ad M K f z R lost → me < R.length → R.getD me t0 = t → z.1 (12 + t.2.1) = tN M K t → (∀ a, bg = some a → a ≤ l) → (∀ f' z', zQ b ad M K f' z' (((prt M K (tN M K t) t.2.2.2.1 n l bg).map (kid M K t me)).foldl (fun s t => opE M K n0 t s) (R, lost)).1 (((prt M K (tN M K t) t.2.2.2.1 n l bg).map (kid M K t me)).foldl (fun s t => opE M K n0 t s) (R, lost)).2 → (∀ j, j ≠ 3 → j < 12 + (t.2.1 + 1) → z'.1 j = z.1 j) → post f') → w_Mp_openParts_31 sk Rc post (n + 1) (ad 0) (zen ad me) (nI me) (nI t.2.1) (some (ro ad (12 + t.2.1))) (oI bg) (nI l) f := by
  intro n
  induction n with
  | zero =>
    intro l bg z f R lost hn hl hQ hme hR hrow hbg hp
    obtain ⟨h, g, hM, hK, hW⟩ := hQ
    have hW2 := hW
    obtain ⟨w1, w2, w3, w4⟩ := hW2
    have hA := w4 me hme
    rw [hR] at hA
    obtain ⟨ok, hdp8, a1, a2, a4, a5, a6, a7, a8, a9, aD⟩ := hA
    have hle : l = t.2.2.2.1 := by omega
    have hKl : K.length ≤ 1500 := by rw [← hK]; exact h.2.2.2.2.1.1
    have hto := ok.2.2.1
    have hme60 : me < 60 := by omega
    refine ⟨nI t.2.2.2.1, h.eg hme60 (by decide) a7, fun _ => ⟨fun c => ?_, fun c => ⟨nI t.2.2.2.1, h.eg hme60 (by decide) a7, h.O0, ?_⟩⟩, fun c => absurd (nI_le (by omega) (by omega)) c⟩
    · rw [oI_none (fun a ha => by have := hbg a ha; omega)] at c
      subst c
      exact hp f z ⟨h, g, hM, hK, hW⟩ (fun _ _ _ => rfl)
    · cases hb : bg with
      | none => rw [hb] at c; exact absurd rfl c
      | some a =>
        have ha := hbg a hb
        have okk : tOK M K R R.length (kid M K t me (a, t.2.2.2.1)) := by
          refine ⟨by unfold kid; dsimp only; omega, by unfold kid; dsimp only; omega, hto, fun q => absurd q (by unfold kid; dsimp only; omega), fun _ => ?_⟩
          unfold kid; dsimp only
          rw [Nat.add_sub_cancel, hR]
          exact ⟨rfl, rfl, hk⟩
        have := hRc (kid M K t me (a, t.2.2.2.1)) z f R lost post ⟨h, g, hM, hK, hW⟩ okk rfl (fun f' z' hz hr => hp f' z' (by rw [hb]; exact hz) hr)
        have e1 : iI (kid M K t me (a, t.2.2.2.1)).1 = nI me := rfl
        have e2 : nI (kid M K t me (a, t.2.2.2.1)).2.1 = nI t.2.1 + 1 := (nI_1 t.2.1).symm
        rw [e1, e2] at this
        exact this
  | succ n ih =>
    intro l bg z f R lost hn hl hQ hme hR hrow hbg hp
    obtain ⟨h, g, hM, hK, hW⟩ := hQ
    have hW2 := hW
    obtain ⟨w1, w2, w3, w4⟩ := hW2
    have hA := w4 me hme
    rw [hR] at hA
    obtain ⟨ok, hdp8, a1, a2, a4, a5, a6, a7, a8, a9, aD⟩ := hA
    have hKl : K.length ≤ 1500 := by rw [← hK]; exact h.2.2.2.2.1.1
    have hto := ok.2.2.1
    have hme60 : me < 60 := by omega
    have hlt : l < t.2.2.2.1 := by omega
    have hBj : zB (z.1 (12 + t.2.1)) := by rw [hrow]; exact (((show zB M by rw [← hM]; exact g.1).fieldV _ _ _).par)
    have sp : prt M K (tN M K t) t.2.2.2.1 (n + 1) l bg = (if mk M (tN M K t) (lf M K l) (lt M K l) = 0 then prt M K (tN M K t) t.2.2.2.1 n (l + 1) bg else bg.toList.map (fun a => (a, l)) ++ (if mk M (tN M K t) (lf M K l) (lt M K l) = 2 then [] else prt M K (tN M K t) t.2.2.2.1 n (l + 1) (some (l + 1)))) := by
      show (if l < t.2.2.2.1 then _ else _) = _
      rw [if_pos hlt]
    refine ⟨nI t.2.2.2.1, h.eg hme60 (by decide) a7, fun c => absurd c (by rw [nI_leI (by omega) (by omega)]; omega), fun _ => ⟨_, ⟨_, h.2.2.1, rfl⟩, _, rfl, h.mO, m_markOf h g.1 g.2.1 (by omega) (by omega) hBj ?_⟩⟩
    rw [hM, hK, hrow]
    generalize hm : mk M (tN M K t) (lf M K l) (lt M K l) = m at sp ⊢
    have hm2 : m ≤ 2 := by rw [← hm]; exact mk_le _ _ _ _
    have m0 : nI m = (0 : Int32) ↔ m = 0 := nI_eq (b := 0) (by omega) (by omega)
    have m2 : nI m = (2 : Int32) ↔ m = 2 := nI_eq (b := 2) (by omega) (by omega)
    -- what follows a mark
    have af : ∀ f1 z1 R1 lost1, zQ b ad M K f1 z1 R1 lost1 → me < R1.length → R1.getD me t0 = t → (∀ j, j ≠ 3 → j < 12 + (t.2.1 + 1) → z1.1 j = z.1 j) → (∀ f' z', zQ b ad M K f' z' (((if m = 2 then [] else prt M K (tN M K t) t.2.2.2.1 n (l + 1) (some (l + 1))).map (kid M K t me)).foldl (fun s t => opE M K n0 t s) (R1, lost1)).1 (((if m = 2 then [] else prt M K (tN M K t) t.2.2.2.1 n (l + 1) (some (l + 1))).map (kid M K t me)).foldl (fun s t => opE M K n0 t s) (R1, lost1)).2 → (∀ j, j ≠ 3 → j < 12 + (t.2.1 + 1) → z'.1 j = z.1 j) → post f') → w_Mp_openParts_76 sk Rc post (w_Mp_openParts_31 sk Rc post (n + 1)) (ad 0) (zen ad me) (nI me) (nI t.2.1) (ro ad (12 + t.2.1)) (nI l) (nI m) f1 := by
      intro f1 z1 R1 lost1 hQ1 hme1 hR1 hz1 hp1
      refine ⟨fun c => ?_, fun c => ?_⟩
      · rw [m2] at c
        rw [if_neg c] at hp1
        show w_Mp_openParts_31 sk Rc post (n + 1) _ _ _ _ _ (nI l + 1) (nI l + 1) f1
        rw [nI_1 l]
        exact ih (l + 1) (some (l + 1)) z1 f1 R1 lost1 (by omega) (by omega) hQ1 hme1 hR1 (by rw [hz1 _ (by omega) (by omega)]; exact hrow) (fun a ha => by cases ha; omega) (fun f' z' hz hr => hp1 f' z' hz (fun j n3 nj => by rw [hr j n3 nj, hz1 j n3 nj]))
      · rw [m2] at c
        rw [if_pos c] at hp1
        exact hp1 f1 z1 hQ1 hz1
    refine ⟨fun c => ?_, fun c => ⟨fun c1 => ?_, fun c1 => ⟨h.O0, ?_⟩⟩⟩
    · rw [m0] at c
      rw [sp, if_pos c] at hp
      show w_Mp_openParts_31 sk Rc post (n + 1) _ _ _ _ _ _ (nI l + 1) f
      rw [nI_1 l]
      exact ih (l + 1) bg z f R lost (by omega) (by omega) ⟨h, g, hM, hK, hW⟩ hme hR hrow (fun a ha => by have := hbg a ha; omega) hp
    · rw [m0] at c
      rw [sp, if_neg c] at hp
      rw [oI_none (fun a ha => by have := hbg a ha; omega)] at c1
      subst c1
      exact af f z R lost ⟨h, g, hM, hK, hW⟩ hme hR (fun _ _ _ => rfl) hp
    · rw [m0] at c
      rw [sp, if_neg c] at hp
      cases hb : bg with
      | none => rw [hb] at c1; exact absurd rfl c1
      | some a =>
        have ha := hbg a hb
        have okk : tOK M K R R.length (kid M K t me (a, l)) := by
          refine ⟨by unfold kid; dsimp only; omega, by unfold kid; dsimp only; omega, by unfold kid; dsimp only; omega, fun q => absurd q (by unfold kid; dsimp only; omega), fun _ => ?_⟩
          unfold kid; dsimp only
          rw [Nat.add_sub_cancel, hR]
          exact ⟨rfl, rfl, hk⟩
        rw [hb] at hp
        have := hRc (kid M K t me (a, l)) z f R lost (fun f8 => w_Mp_openParts_76 sk Rc post (w_Mp_openParts_31 sk Rc post (n + 1)) (ad 0) (zen ad me) (nI me) (nI t.2.1) (ro ad (12 + t.2.1)) (nI l) (nI m) f8) ⟨h, g, hM, hK, hW⟩ okk rfl (fun f1 z1 hz hr => ?_)
        · have e1 : iI (kid M K t me (a, l)).1 = nI me := rfl
          have e2 : nI (kid M K t me (a, l)).2.1 = nI t.2.1 + 1 := (nI_1 t.2.1).symm
          rw [e1, e2] at this
          exact this
        · have pr := opE_pre M K n0 (kid M K t me (a, l)) (R, lost)
          refine af f1 z1 _ _ hz (Nat.lt_of_lt_of_le hme pr.length_le) (by rw [pre_get pr hme]; exact hR) hr (fun f' z' hz' hr' => hp f' z' ?_ hr')
          simp only [Option.toList, List.map_cons, List.map_nil, List.cons_append, List.nil_append, List.foldl_cons]
          exact hz'
end ZO
