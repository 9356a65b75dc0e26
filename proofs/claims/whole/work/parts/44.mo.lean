/-! signed bytes -/
def sb (x : Nat) : Int32 := (nI x).toInt8.toInt32
theorem sb_blk : ∀ x, x < 256 → (sb x = 32 ↔ x = 32) ∧ (sb x = 9 ↔ x = 9) := by decide +kernel
theorem sb_all : ∀ x, x < 256 → vp_nar .byte (sb x) = sb x ∧ (sb x &&& 255) = nI x ∧ vp_nar .byte (sb x).toInt8.toInt32 = sb x ∧ (sb x).toInt8.toInt32 = sb x := by decide +kernel
theorem sb_ch : ∀ x, x < 256 → (sb x = 10 ↔ x = 10) ∧ (sb x = 13 ↔ x = 13) ∧ (sb x = 58 ↔ x = 58) ∧ (sb x = 34 ↔ x = 34) ∧ (sb x = 92 ↔ x = 92) ∧ (sb x = 59 ↔ x = 59) ∧ (sb x = 61 ↔ x = 61) ∧ (sb x = 47 ↔ x = 47) ∧ (sb x = 45 ↔ x = 45) := by decide +kernel
theorem sb_sm : ∀ x, x < 256 → ((sb x < 65 → sb (low x) = sb x) ∧ (¬ sb x < 65 → ((90 < sb x → sb (low x) = sb x) ∧ (¬ 90 < sb x → sb (low x) = sb x + 32)))) := by decide +kernel
theorem sb_nm : ∀ x, x < 256 → ((¬ sb (low x) < 97 ∧ sb (low x) ≤ 122) ∨ (¬ sb x < 48 ∧ sb x ≤ 57) ∨ sb x = 45 ↔ isNm x = true) := by decide +kernel
theorem sb_nI : ∀ x, x < 128 → sb x = nI x := by decide +kernel
theorem sb_inv (x : Nat) (h : x < 256) : (sb x &&& 255).toNatClampNeg = x := by
  rw [(sb_all x h).2.1, nI_clamp (by omega)]
theorem sb_eq {x y : Nat} (hx : x < 256) (hy : y < 256) : sb x = sb y ↔ x = y := by
  refine ⟨fun e => ?_, fun e => by rw [e]⟩
  have h1 := sb_inv x hx
  rw [e, sb_inv y hy] at h1
  exact h1.symm
section YB
variable {b f : xhp} {ad : Nat → Nat} {y : yS}
theorem y_small {x : Nat} (hx : x < 256) {post : Int32 → xhp → Prop} (hp : post (sb (low x)) f) : w_Mo_small post (sb x) f := by
  obtain ⟨h1, h2⟩ := sb_sm x hx
  refine ⟨fun c => ?_, fun c => ⟨fun c1 => ?_, fun c1 => ?_⟩⟩
  · rw [h1 c] at hp; exact hp
  · rw [(h2 c).1 c1] at hp; exact hp
  · rw [(h2 c).2 c1] at hp; exact hp
theorem y_blank {x : Nat} (hx : x < 256) {post : Int32 → xhp → Prop} (hp : post (zb (isBlk x)) f) : w_Mo_isBlank post (sb x) f := by
  obtain ⟨h1, h2⟩ := sb_blk x hx
  unfold w_Mo_isBlank
  refine ⟨fun c => ?_, fun c => ⟨fun c2 => ?_, fun c2 => ?_⟩⟩
  · rw [h1] at c
    rw [show isBlk x = true by rw [c]; rfl] at hp; exact ⟨Or.inr rfl, hp⟩
  · rw [h1] at c; rw [h2] at c2
    rw [show isBlk x = false by simp [isBlk, c, c2]] at hp; exact ⟨Or.inl rfl, hp⟩
  · rw [h1] at c; rw [h2] at c2
    rw [show isBlk x = true by rw [c2]; rfl] at hp; exact ⟨Or.inr rfl, hp⟩
theorem y_name {x : Nat} (hx : x < 256) {post : Int32 → xhp → Prop} (hp : post (zb (isNm x)) f) : w_Mo_isName post (sb x) f := by
  have hn := sb_nm x hx
  have yes : ((¬ sb (low x) < 97 ∧ sb (low x) ≤ 122) ∨ (¬ sb x < 48 ∧ sb x ≤ 57) ∨ sb x = 45) → w_Mo_isName_36 post f := by
    intro q
    rw [hn.mp q] at hp; exact ⟨Or.inr rfl, hp⟩
  have no : ¬ ((¬ sb (low x) < 97 ∧ sb (low x) ≤ 122) ∨ (¬ sb x < 48 ∧ sb x ≤ 57) ∨ sb x = 45) → w_Mo_isName_41 post 0 f := by
    intro q
    rw [hn, Bool.not_eq_true] at q
    rw [q] at hp; exact ⟨Or.inl rfl, hp⟩
  have f30 : ¬ (¬ sb (low x) < 97 ∧ sb (low x) ≤ 122) → ¬ (¬ sb x < 48 ∧ sb x ≤ 57) → w_Mo_isName_30 post (sb x) f := by
    intro q1 q2
    exact ⟨fun c => no (fun q => q.elim q1 (fun q => q.elim q2 c)), fun c => yes (Or.inr (Or.inr c))⟩
  have f18 : ¬ (¬ sb (low x) < 97 ∧ sb (low x) ≤ 122) → w_Mo_isName_18 post (sb x) f := by
    intro q1
    exact ⟨fun c => f30 q1 (fun q => q.1 c), fun c => ⟨fun c1 => yes (Or.inr (Or.inl ⟨c, c1⟩)), fun c1 => f30 q1 (fun q => c1 q.2)⟩⟩
  exact y_small hx ⟨fun c => f18 (fun q => q.1 c), fun c => y_small hx ⟨fun c1 => yes (Or.inl ⟨c, c1⟩), fun c1 => f18 (fun q => c1 q.2)⟩⟩
end YB
