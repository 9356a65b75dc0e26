/-! push, look -/
/-- the stack, its bottom first -/
def yQ (y : yS) (Q : List eT) : Prop := (∀ i, i < Q.length → y.1 39 i = nI (Q.getD i t0).2.2.1 ∧ y.1 40 i = nI (Q.getD i t0).2.2.2.1 ∧ y.1 41 i = iI (Q.getD i t0).1) ∧ y.2.2.1 38 = nI Q.length
theorem yQ.k {y y' : yS} {Q : List eT} {as ss : List Nat} (h : yQ y Q) (hk : yK as ss y y') (h1 : 39 ∉ as) (h2 : 40 ∉ as) (h3 : 41 ∉ as) (h4 : 38 ∉ ss) : yQ y' Q :=
  ⟨fun i hi => by rw [hk.1 39 h1, hk.1 40 h2, hk.1 41 h3]; exact h.1 i hi, by rw [hk.2.2.1 38 h4]; exact h.2⟩
section YPu
variable {b : xhp} {ad : Nat → Nat} {M : List Nat} {K : List (Nat × Nat)}
theorem y_push {y : yS} {f : xhp} (h : yM b f ad y) {Q : List eT} (hQ : yQ y Q) (hQ4 : Q.length < 420) {t : eT} {post : xhp → Prop} (hp : ∀ f' y', yM b f' ad y' → yK [39, 40, 41] [38] y y' → yQ y' (Q ++ [t]) → post f') : w_Mo_push post (ad 57) (nI t.2.2.1) (nI t.2.2.2.1) (iI t.1) f := by
  refine ⟨_, ⟨_, h.2.2.1, rfl⟩, nI Q.length, ⟨_, h.2.2.1, by rw [← hQ.2]; rfl⟩, m_wa h (k := 39) (t := 0) rfl (by decide) (by decide) rfl hQ4 (by omega) (fun f5 h5 => ⟨_, ⟨_, h5.2.2.1, rfl⟩, nI Q.length, ⟨_, h5.2.2.1, by rw [← hQ.2]; rfl⟩, m_wa h5 (k := 40) (t := 0) rfl (by decide) (by decide) rfl hQ4 (by omega) (fun f6 h6 => ⟨_, ⟨_, h6.2.2.1, rfl⟩, nI Q.length, ⟨_, h6.2.2.1, by rw [← hQ.2]; rfl⟩, m_wa h6 (k := 41) (t := 0) rfl (by decide) (by decide) rfl hQ4 (by omega) (fun f7 h7 => ⟨nI Q.length, ⟨_, h7.2.2.1, by rw [← hQ.2]; rfl⟩, m_ws h7 rfl (by decide) (by decide) (by decide) (fun f8 h8 => ?_)⟩)⟩)⟩)⟩
  refine hp f8 _ h8 ?_ ?_
  · refine ⟨fun j hj => ?_, rfl, fun j hj => ?_, rfl⟩
    · simp only [List.mem_cons, List.not_mem_nil, or_false, not_or] at hj
      dsimp only
      rw [zup_ne _ _ hj.2.2, zup_ne _ _ hj.2.1, zup_ne _ _ hj.1]
    · simp only [List.mem_cons, List.not_mem_nil, or_false] at hj
      dsimp only
      rw [zup_ne _ _ hj]
  · refine ⟨fun i hi => ?_, by dsimp only; rw [zup_self, nI_1]; simp⟩
    simp only [List.length_append, List.length_cons, List.length_nil] at hi
    dsimp only
    rw [zup_self, zup_ne _ _ (show 39 ≠ 41 by decide), zup_ne _ _ (show 40 ≠ 41 by decide), zup_self, zup_ne _ _ (show 39 ≠ 40 by decide), zup_self, zup_ne _ _ (show 41 ≠ 40 by decide), zup_ne _ _ (show 41 ≠ 39 by decide), zup_ne _ _ (show 40 ≠ 39 by decide)]
    by_cases e : i = Q.length
    · subst e
      rw [upd_self, upd_self, upd_self]
      simp [List.getD]
    · rw [upd_ne _ _ e, upd_ne _ _ e, upd_ne _ _ e]
      have := hQ.1 i (by omega)
      simp only [List.getD_eq_getElem?_getD] at this ⊢
      rw [List.getElem?_append_left (by omega)]
      exact this
theorem upd_upd (g : Nat → Int32) (k : Nat) (v w : Int32) : upd (upd g k v) k w = upd g k w := by
  funext j
  by_cases e : j = k
  · subst e; rw [upd_self, upd_self]
  · rw [upd_ne _ _ e, upd_ne _ _ e, upd_ne _ _ e]
/-- the parts are pushed, the last one first -/
theorem y_look51 {e : Nat} (he : e < 60) {t : eT} {post : xhp → Prop} : ∀ (S : List (Nat × Nat)) (n : Nat) (Q : List eT) (y : yS) (f : xhp), n ≤ S.length → S.length < 400 → Q.length + n ≤ 420 → yM b f ad y → yPt y S → yQ y Q → (∀ f' y', yM b f' ad y' → yK [39, 40, 41] [38] y y' → yQ y' (Q ++ ((S.take n).map (kid M K t e)).reverse) → post f') → w_Mo_look_51 post (n + 1) (ad 57) (nI e) (iI n) f := by
  intro S n
  induction n with
  | zero =>
    intro Q y f hn hS4 hQn h hS hQ hp
    refine ⟨fun _ => hp f y h (yK.refl y) (by simpa using hQ), fun c => absurd (by decide) c⟩
  | succ n ih =>
    intro Q y f hn hS4 hQn h hS hQ hp
    have e0 : iI (n + 1) = nI n := rfl
    rw [e0]
    obtain ⟨s1, s2⟩ := hS.1 n (by omega)
    refine ⟨fun c => absurd c (nI_pos (by omega)), fun _ => ⟨_, ⟨_, h.2.2.1, rfl⟩, _, _, h.ai 43 (t := 0) rfl (by decide) (by decide), vp_in_nI (by show n < 400; omega) (by decide), _, ⟨_, h.2.2.1, rfl⟩, _, _, h.ai 44 (t := 0) rfl (by decide) (by decide), vp_in_nI (by show n < 400; omega) (by decide), h.O, ?_⟩⟩
    rw [nI_cl n (by omega), s1, s2]
    refine y_push h hQ (by omega) (t := kid M K t e (S.getD n (0, 0))) (fun f7 y7 h7 k7 hQ7 => ?_)
    rw [iI_pred]
    have hS7 : yPt y7 S := ⟨fun i hi => by rw [k7.1 43 (by decide), k7.1 44 (by decide)]; exact hS.1 i hi, by rw [k7.2.2.1 42 (by decide)]; exact hS.2⟩
    refine ih (Q ++ [kid M K t e (S.getD n (0, 0))]) y7 f7 (by omega) hS4 (by simp; omega) h7 hS7 hQ7 (fun f' y' h' k' hQ' => hp f' y' h' (k7.trans k') ?_)
    have hl : n < S.length := by omega
    have : S.take (n + 1) = S.take n ++ [S.getD n (0, 0)] := by
      rw [List.take_succ, List.getElem?_eq_getElem hl]
      simp [List.getD, hl]
    rw [this, List.map_append, List.reverse_append]
    rw [List.append_assoc] at hQ'
    exact hQ'
end YPu
