/-! isThere, children -/
section YCh
variable {b : xhp} {ad : Nat → Nat} {M : List Nat} {K : List (Nat × Nat)} {y : yS} {f : xhp} {R : List eT} {lost : Nat}
theorem y_isThere (h : yM b f ad y) (hE : yEn y M K R lost) {rd : Bool} (e22 : y.2.2.1 22 = zb rd) (hr : rd = false → R.length = 0) {e : Int32} {post : Int32 → xhp → Prop} (hp : post (zb (zfind R.length e).isSome) f) : w_Mo_isThere post (ad 57) e f := by
  have h60 := hE.2.2.1
  have no : (zfind R.length e).isSome = false → w_Mo_isThere_23 post f := fun q => by rw [q] at hp; exact ⟨Or.inl rfl, hp⟩
  refine ⟨zb rd, ⟨_, h.2.2.1, by rw [← e22]; rfl⟩, fun c => no ?_, fun c => ⟨fun c1 => no ?_, fun c1 => ⟨nI R.length, ⟨_, h.2.2.1, by rw [← hE.1]; rfl⟩, fun c2 => no ?_, fun c2 => ?_⟩⟩⟩
  · rw [zb_0] at c
    unfold zfind
    rw [hr c]
    split
    · rfl
    · rw [if_neg (Nat.not_lt_zero _)]; rfl
  · unfold zfind; rw [if_pos c1]; rfl
  · obtain ⟨k, hk, rfl⟩ := nI_of c1
    rw [nI_leI (by omega) hk] at c2
    unfold zfind
    rw [if_neg c1, nI_cl k hk, if_neg (by omega)]; rfl
  · obtain ⟨k, hk, rfl⟩ := nI_of c1
    rw [nI_leI (by omega) hk] at c2
    rw [zfind_nI (by omega) h60] at hp
    exact ⟨Or.inr rfl, hp⟩
theorem take_cnt {R : List eT} {c k : Nat} (hc : c < R.length) : (R.take (c + 1)).countP (fun u => u.1 == k) = (R.take c).countP (fun u => u.1 == k) + if (R.getD c t0).1 = k then 1 else 0 := by
  have : R.take (c + 1) = R.take c ++ [R.getD c t0] := by
    rw [List.take_succ, List.getElem?_eq_getElem hc]
    simp [List.getD, hc]
  rw [this, cnt_app]
theorem y_children (h : yM b f ad y) (hE : yEn y M K R lost) {e : Nat} (he : e < R.length) {post : Int32 → xhp → Prop} (hp : post (nI (R.countP (fun u => u.1 == e + 1))) f) : w_Mo_children post (ad 57) (nI e) f := by
  have h60 := hE.2.2.1
  have loop : ∀ (n c : Nat), c + n = R.length → w_Mo_children_6 post (n + 1) (ad 57) (nI e) (nI ((R.take c).countP (fun u => u.1 == e + 1))) (nI c) f := by
    intro n
    induction n with
    | zero =>
      intro c hc
      have : c = R.length := by omega
      subst this
      rw [List.take_length]
      exact ⟨nI R.length, ⟨_, h.2.2.1, by rw [← hE.1]; rfl⟩, fun _ => hp, fun q => absurd (nI_le (Nat.le_refl _) (by omega)) q⟩
    | succ n ih =>
      intro c hc
      have hcl : c < R.length := by omega
      have hnx := ih (c + 1) (by omega)
      rw [take_cnt hcl] at hnx
      obtain ⟨ok, _, _, _, _, _, f32, _⟩ := hE.2.2.2 c hcl
      refine ⟨nI R.length, ⟨_, h.2.2.1, by rw [← hE.1]; rfl⟩, fun q => absurd q (by rw [nI_leI (by omega) (by omega)]; omega), fun _ => ⟨_, ⟨_, h.2.2.1, rfl⟩, _, _, h.ai 32 (t := 0) rfl (by decide) (by decide), vp_in_nI (by show c < 60; omega) (by decide), ?_⟩⟩
      have o1 := ok.1
      rw [nI_cl c (by omega), f32, iI_nI (by omega) (by omega)]
      refine ⟨fun q => ?_, fun q => ?_⟩
      · rw [if_neg q, Nat.add_zero] at hnx
        show w_Mo_children_6 post (n + 1) (ad 57) (nI e) (_ + 0) (nI c + 1) f
        rw [Int32.add_zero, nI_1]; exact hnx
      · rw [if_pos q] at hnx
        show w_Mo_children_6 post (n + 1) (ad 57) (nI e) (_ + 1) (nI c + 1) f
        rw [nI_1, nI_1]; exact hnx
  refine ⟨(R.length - (e + 1)) + 1, ?_⟩
  have := loop (R.length - (e + 1)) (e + 1) (by omega)
  have z0 : ∀ c, c ≤ e + 1 → (R.take c).countP (fun u => u.1 == e + 1) = 0 := by
    intro c
    induction c with
    | zero => intro _; rfl
    | succ c ih =>
      intro hc
      have o1 := (hE.2.2.2 c (by omega)).1.1
      rw [take_cnt (by omega), ih (by omega), if_neg (by omega)]
  rw [z0 (e + 1) (Nat.le_refl _)] at this
  rw [nI_1]; exact this
end YCh
