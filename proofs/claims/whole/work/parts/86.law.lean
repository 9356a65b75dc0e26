/-! BOTH SIDES: one answer, one new state -/
/-- what both objects hold -/
abbrev bS : Type := List Nat × List Nat × List Nat × List eT × Nat
def zB_ (b : xhp) (ad : Nat → Nat) (f : xhp) (u : bS) : Prop := zN b ad f u.1 u.2.1 u.2.2.1 u.2.2.2.1 u.2.2.2.2
def yB_ (b : xhp) (ad : Nat → Nat) (f : xhp) (u : bS) : Prop := yN b ad f u.1 u.2.1 u.2.2.1 u.2.2.2.1 u.2.2.2.2
/-- the cells of the two lie apart -/
def apart (ad1 ad2 : Nat → Nat) : Prop := ∀ i k, i < 107 → yow k = true → ad1 i ≠ ad2 k
theorem zB_.re {b f : xhp} {ad : Nat → Nat} {u : bS} (h : zB_ b ad f u) : zB_ f ad f u := by
  obtain ⟨z, ⟨h1, h2, h3⟩, h4⟩ := h
  exact ⟨z, ⟨h1, fun _ _ => rfl, h3⟩, h4⟩
theorem yB_.re {b f : xhp} {ad : Nat → Nat} {u : bS} (h : yB_ b ad f u) : yB_ f ad f u := by
  obtain ⟨y, rd, ⟨h1, h2, h3⟩, h4⟩ := h
  exact ⟨y, rd, ⟨h1, fun _ _ => rfl, h3⟩, h4⟩
/-- the class's call leaves the reference as it was -/
theorem zB_.fr {f f' : xhp} {ad1 ad2 : Nat → Nat} {u v : bS} (h : zB_ f ad1 f' u) (hy : yB_ f ad2 f v) (ha : apart ad1 ad2) : yB_ f' ad2 f' v := by
  obtain ⟨z, ⟨h1, h2, h3⟩, h4⟩ := h
  obtain ⟨y, rd, ⟨k1, k2, k3, k4⟩, k5⟩ := hy
  have e : ∀ k, yow k = true → f' (ad2 k) = f (ad2 k) := fun k hk => h2 (ad2 k) (fun i hi e => ha i k hi hk e.symm)
  exact ⟨y, rd, ⟨k1, fun _ _ => rfl, by rw [e 57 rfl]; exact k3, fun k hk => by rw [e k (yow_a hk)]; exact k4 k hk⟩, k5⟩
theorem zrow.fr {f f' : xhp} {ad : Nat → Nat} {j : Nat} {L : List Nat} (h : zrow f ad j L) (h1 : f' (ro ad j) = f (ro ad j)) (h2 : f' (ra ad j) = f (ra ad j)) : zrow f' ad j L := by
  obtain ⟨a, c, g, d, e⟩ := h
  exact ⟨a, by rw [h1]; exact c, g, by rw [h2]; exact d, e⟩
theorem yB_.fr {f f' : xhp} {ad1 ad2 : Nat → Nat} {u v : bS} (h : yB_ f ad2 f' u) (hz : zB_ f ad1 f v) (ha : apart ad1 ad2) : zB_ f' ad1 f' v := by
  obtain ⟨y, rd, ⟨k1, k2, k3⟩, k5⟩ := h
  obtain ⟨z, ⟨h1, h2, h3, h4, h5, h6, h7, h8, h9⟩, h10⟩ := hz
  have e : ∀ i, i < 107 → f' (ad1 i) = f (ad1 i) := fun i hi => k2 (ad1 i) (fun k hk e => ha i k hi hk e)
  refine ⟨z, ⟨h1, fun _ _ => rfl, by rw [e 0 (by decide)]; exact h3, fun j hj => (h4 j hj).fr (e _ (by omega)) (e _ (by omega)), ?_, ?_, ?_, ?_, fun i hi => ?_⟩, h10⟩
  · obtain ⟨l1, l2, st, sp, l3, l4, l5⟩ := h5
    exact ⟨l1, by unfold zml; rw [e 41 (by decide)]; exact l2, st, sp, by unfold zst; rw [e 42 (by decide)]; exact l3, by unfold zsp; rw [e 43 (by decide)]; exact l4, l5⟩
  · unfold zvl; rw [e 44 (by decide)]; exact h6
  · unfold zea; rw [e 45 (by decide)]; exact h7
  · unfold zba; rw [e 46 (by decide)]; exact h8
  · unfold zen; rw [e _ (by omega)]; exact h9 i hi
section BO
variable (sk : Nat → Nat) (u : bS)
theorem b_feed (w1 w2 w3 w4 w5 : Int32) : ∃ v : bS, (∀ b ad f, zB_ b ad f u → w_Mp_feed (fun f' => zB_ b ad f' v) (ad 0) w1 w2 w3 w4 w5 f) ∧ (∀ b ad f, yB_ b ad f u → w_Mo_feed (fun f' => yB_ b ad f' v) (ad 57) w1 w2 w3 w4 w5 f) :=
  ⟨(wds w1 ++ (wds w2 ++ (wds w3 ++ (wds w4 ++ wds w5))), u.2), fun _ _ _ h => m_feed h (fun _ h' => h'), fun _ _ _ h => y_feed h (fun _ h' => h')⟩
theorem b_end (n : Int32) : ∃ (a : Int32) (v : bS), (∀ b ad f, zB_ b ad f u → w_Mp_end (fun r f' => r = a ∧ zB_ b ad f' v) (ad 0) n f) ∧ (∀ b ad f, yB_ b ad f u → w_Mo_end (fun r f' => r = a ∧ yB_ b ad f' v) (ad 57) n f) := by
  by_cases bad : n < 0 ∨ (20 : Int32) < n ∨ 1500 < u.2.1.length + n.toNatClampNeg
  · have no : ∀ k : Nat, n = nI k → k ≤ 20 → u.2.1.length + k ≤ 1500 → False := by
      intro k e h1 h2
      rw [e] at bad
      rcases bad with c | c | c
      · exact nI_pos (by omega) c
      · rw [show (20 : Int32) = nI 20 from rfl, nI_ltI (by omega) (by omega)] at c; omega
      · rw [nI_cl k (by omega)] at c; omega
    exact ⟨-1, u, fun b ad f h => m_end h (fun _ => ⟨rfl, h⟩) (fun k e h1 h2 => (no k e h1 h2).elim), fun b ad f h => y_end h (fun _ => ⟨rfl, h⟩) (fun k e h1 h2 => (no k e h1 h2).elim)⟩
  · exact ⟨nI (u.2.1.length + n.toNatClampNeg), ([], u.2.1 ++ enB u.1 0 n.toNatClampNeg, u.2.2), fun b ad f h => m_end h (fun c => (bad c).elim) (fun k e h1 h2 f' h' => by rw [e, nI_cl k (by omega)]; exact ⟨rfl, h'⟩), fun b ad f h => y_end h (fun c => (bad c).elim) (fun k e h1 h2 f' h' => by rw [e, nI_cl k (by omega)]; exact ⟨rfl, h'⟩)⟩
theorem b_read : ∃ (a : Int32) (v : bS), (∀ b ad f, zB_ b ad f u → w_Mp_read sk (fun r f' => r = a ∧ zB_ b ad f' v) (ad 0) f) ∧ (∀ b ad f, yB_ b ad f u → w_Mo_read (fun r f' => r = a ∧ yB_ b ad f' v) (ad 57) f) := by
  obtain ⟨Y, P, M, R, lost⟩ := u
  obtain ⟨B, hB⟩ : ∃ B, B = bldR P := ⟨_, rfl⟩
  have z : ∀ b ad f, zN b ad f Y P M R lost → ∀ post : Int32 → xhp → Prop, (∀ f', zN b ad f' Y [] P B.1 B.2 → post (nI B.1.length) f') → w_Mp_read sk post (ad 0) f := by
    intro b ad f h post hp
    rw [hB] at hp
    exact m_read h hp
  have y : ∀ b ad f, yN b ad f Y P M R lost → ∀ post : Int32 → xhp → Prop, (∀ f', yN b ad f' Y [] P B.1 B.2 → post (nI B.1.length) f') → w_Mo_read post (ad 57) f := by
    intro b ad f h post hp
    rw [hB] at hp
    exact y_read h hp
  clear hB
  exact ⟨nI B.1.length, (Y, [], P, B.1, B.2), fun b ad f h => z b ad f h _ (fun _ h' => ⟨rfl, h'⟩), fun b ad f h => y b ad f h _ (fun _ h' => ⟨rfl, h'⟩)⟩
theorem b_entity (e w : Int32) : ∃ (a : Int32) (v : bS), (∀ b ad f, zB_ b ad f u → w_Mp_entity (fun r f' => r = a ∧ zB_ b ad f' v) (ad 0) e w f) ∧ (∀ b ad f, yB_ b ad f u → w_Mo_entity (fun r f' => r = a ∧ yB_ b ad f' v) (ad 57) e w f) :=
  ⟨sEnt u.2.2.1 u.2.2.2.1 e w, u, fun _ _ _ h => m_entity h (fun _ h' => ⟨rfl, h'⟩), fun _ _ _ h => y_entity h (fun _ h' => ⟨rfl, h'⟩)⟩
theorem b_length (e w : Int32) : ∃ (a : Int32) (v : bS), (∀ b ad f, zB_ b ad f u → w_Mp_length sk (fun r f' => r = a ∧ zB_ b ad f' v) (ad 0) e w f) ∧ (∀ b ad f, yB_ b ad f u → w_Mo_length (fun r f' => r = a ∧ yB_ b ad f' v) (ad 57) e w f) :=
  ⟨oLen (sWord u.2.2.1 u.2.2.2.1 e w), u, fun _ _ _ h => m_length h (fun _ h' => ⟨rfl, h'⟩), fun _ _ _ h => y_length h (fun _ h' => ⟨rfl, h'⟩)⟩
theorem b_at (e w k : Int32) : ∃ (a : Int32) (v : bS), (∀ b ad f, zB_ b ad f u → w_Mp_at sk (fun r f' => r = a ∧ zB_ b ad f' v) (ad 0) e w k f) ∧ (∀ b ad f, yB_ b ad f u → w_Mo_at (fun r f' => r = a ∧ yB_ b ad f' v) (ad 57) e w k f) :=
  ⟨match sWord u.2.2.1 u.2.2.2.1 e w with | none => -1 | some L => rget L k, u, fun _ _ _ h => m_at h (fun _ h' => ⟨rfl, h'⟩), fun _ _ _ h => y_at h (fun _ h' => ⟨rfl, h'⟩)⟩
theorem b_field (e : Int32) : ∃ (a : Int32) (v : bS), (∀ b ad f, zB_ b ad f u → w_Mp_field (fun r f' => r = a ∧ zB_ b ad f' v) (ad 0) e f) ∧ (∀ b ad f, yB_ b ad f u → w_Mo_field (fun r f' => r = a ∧ yB_ b ad f' v) (ad 57) e f) :=
  ⟨oLen (sField u.2.2.1 u.2.1 u.2.2.2.1 e), (u.1, (sField u.2.2.1 u.2.1 u.2.2.2.1 e).getD [], u.2.2), fun _ _ _ h => m_field h (fun _ h' => ⟨rfl, h'⟩), fun _ _ _ h => y_field h (fun _ h' => ⟨rfl, h'⟩)⟩
theorem b_parameter (e : Int32) : ∃ (a : Int32) (v : bS), (∀ b ad f, zB_ b ad f u → w_Mp_parameter (fun r f' => r = a ∧ zB_ b ad f' v) (ad 0) e f) ∧ (∀ b ad f, yB_ b ad f u → w_Mo_parameter (fun r f' => r = a ∧ yB_ b ad f' v) (ad 57) e f) :=
  ⟨oLen (sParam u.2.2.1 u.2.1 u.2.2.2.1 e), (u.1, (sParam u.2.2.1 u.2.1 u.2.2.2.1 e).getD [], u.2.2), fun _ _ _ h => m_parameter h (fun _ h' => ⟨rfl, h'⟩), fun _ _ _ h => y_parameter h (fun _ h' => ⟨rfl, h'⟩)⟩
theorem b_byteAt (k : Int32) : ∃ (a : Int32) (v : bS), (∀ b ad f, zB_ b ad f u → w_Mp_byteAt (fun r f' => r = a ∧ zB_ b ad f' v) (ad 0) k f) ∧ (∀ b ad f, yB_ b ad f u → w_Mo_byteAt (fun r f' => r = a ∧ yB_ b ad f' v) (ad 57) k f) :=
  ⟨rget u.2.1 k, u, fun _ _ _ h => m_byteAt h ⟨rfl, h⟩, fun _ _ _ h => y_byteAt h ⟨rfl, h⟩⟩
theorem b_text (g k : Int32) : ∃ (a : Int32) (v : bS), (∀ b ad f, zB_ b ad f u → w_Mp_text (fun r f' => r = a ∧ zB_ b ad f' v) (ad 0) g k f) ∧ (∀ b ad f, yB_ b ad f u → w_Mo_text (fun r f' => r = a ∧ yB_ b ad f' v) (ad 57) g k f) :=
  ⟨rget (if g = 0 then txL u.2.2.1 (lns u.2.2.1) u.2.2.2.1 else hgL u.2.2.1 (lns u.2.2.1) u.2.2.2.1) k, u, fun _ _ _ h => m_text h ⟨rfl, h⟩, fun _ _ _ h => y_text h (fun _ h' => ⟨rfl, h'⟩)⟩
theorem b_body (e k : Int32) : ∃ (a : Int32) (v : bS), (∀ b ad f, zB_ b ad f u → w_Mp_body (fun r f' => r = a ∧ zB_ b ad f' v) (ad 0) e k f) ∧ (∀ b ad f, yB_ b ad f u → w_Mo_body (fun r f' => r = a ∧ yB_ b ad f' v) (ad 57) e k f) := by
  by_cases good : ∃ B j, sBody u.2.2.1 u.2.2.2.1 e = some B ∧ k = nI j ∧ j ≤ B.length ∧ B.length ≤ 1500
  · obtain ⟨B, j, g1, g2, g3, g4⟩ := good
    have no : ¬ ∀ B, sBody u.2.2.1 u.2.2.2.1 e = some B → k < 0 ∨ B.length < k.toNatClampNeg := by
      intro c
      rcases c B g1 with c | c
      · rw [g2] at c; exact nI_pos (by omega) c
      · rw [g2, nI_cl j (by omega)] at c; omega
    have same : ∀ B' j', sBody u.2.2.1 u.2.2.2.1 e = some B' → k = nI j' → j' ≤ B'.length → B'.length ≤ 1500 → B' = B ∧ j' = j := by
      intro B' j' e1 e2 e3 e4
      rw [g1] at e1
      cases e1
      rw [g2, nI_eq (by omega) (by omega)] at e2
      exact ⟨rfl, e2.symm⟩
    refine ⟨nI (B.length - j), (u.1, B.drop j, u.2.2), fun b ad f h => m_body h (fun c => (no c).elim) (fun B' j' e1 e2 e3 e4 f' h' => ?_), fun b ad f h => y_body h (fun c => (no c).elim) (fun B' j' e1 e2 e3 e4 f' h' => ?_)⟩
    · obtain ⟨rfl, rfl⟩ := same B' j' e1 e2 e3 e4
      exact ⟨rfl, h'⟩
    · obtain ⟨rfl, rfl⟩ := same B' j' e1 e2 e3 e4
      exact ⟨rfl, h'⟩
  · exact ⟨-1, u, fun b ad f h => m_body h (fun _ f' h' => ⟨rfl, h'⟩) (fun B j e1 e2 e3 e4 => (good ⟨B, j, e1, e2, e3, e4⟩).elim), fun b ad f h => y_body h (fun _ f' h' => ⟨rfl, h'⟩) (fun B j e1 e2 e3 e4 => (good ⟨B, j, e1, e2, e3, e4⟩).elim)⟩
theorem b_count (w : Int32) : ∃ (a : Int32) (v : bS), (∀ b ad f, zB_ b ad f u → w_Mp_count (fun r f' => r = a ∧ zB_ b ad f' v) (ad 0) w f) ∧ (∀ b ad f, yB_ b ad f u → w_Mo_count (fun r f' => r = a ∧ yB_ b ad f' v) (ad 57) w f) :=
  ⟨sCnt u.2.2.1 u.2.2.2.1 u.2.2.2.2 w, u, fun _ _ _ h => m_count h ⟨rfl, h⟩, fun _ _ _ h => y_count h (fun _ h' => ⟨rfl, h'⟩)⟩
end BO
