/-! Mail: values, bodies, marks, lines -/
def vcF (M : List Nat) (K : List (Nat × Nat)) (to_ : Nat) : Nat → Nat → List Nat
  | 0, _ => []
  | n + 1, l => if l < to_ ∧ blk M K l = true then sub M (lf M K l) (lt M K l) ++ vcF M K to_ n (l + 1) else []
/-- a FIELD's VALUE: line l, its colon at c, its HEAD ends ahead of to_ -/
def valL (M : List Nat) (K : List (Nat × Nat)) (l c to_ : Nat) : List Nat := sub M (c + 1) (lt M K l) ++ vcF M K to_ (to_ - (l + 1)) (l + 1)
def jnF (M : List Nat) (K : List (Nat × Nat)) (from_ to_ : Nat) : Nat → Nat → List Nat
  | 0, _ => []
  | n + 1, l => if l < to_ then ((if from_ < l then [10] else []) ++ sub M (lf M K l) (lt M K l)) ++ jnF M K from_ to_ n (l + 1) else []
/-- the lines with 10 between -/
def jn (M : List Nat) (K : List (Nat × Nat)) (from_ to_ : Nat) : List Nat := jnF M K from_ to_ (to_ - from_) from_
section ZM3
variable {b f : xhp} {ad : Nat → Nat} {z : zS}
/-- room: what stands from line l on is no more than the MAIL from there on -/
theorem zL.f_next {M : List Nat} {K : List (Nat × Nat)} (h : zL M K) (l : Nat) : lt M K l ≤ lf M K (l + 1) := by
  unfold lt lf
  by_cases h1 : l + 1 < K.length
  · rw [if_pos (by omega), if_pos h1]; exact Nat.le_of_lt (h.2.2 l h1)
  · rw [if_neg h1]
    split
    · exact (h.2.1 l (by assumption)).2
    · exact Nat.le_refl _
theorem zL.f_next2 {M : List Nat} {K : List (Nat × Nat)} (h : zL M K) {l : Nat} (hl : l + 1 < K.length) : lt M K l < lf M K (l + 1) := by
  unfold lt lf
  rw [if_pos (by omega), if_pos hl]; exact h.2.2 l hl
theorem vcF_len {M : List Nat} {K : List (Nat × Nat)} (h : zL M K) {to_ : Nat} : ∀ n l, (vcF M K to_ n l).length + lf M K l ≤ M.length := by
  intro n
  induction n with
  | zero => intro l; have := h.f_le l; simp [vcF]; omega
  | succ n ih =>
    intro l
    have h1 := h.f_le l
    have h2 := h.f_next l
    have h3 := ih (l + 1)
    simp only [vcF]
    split
    · rw [List.length_append, sub_len h1.2]; omega
    · simp; omega
theorem zB.vcF {M : List Nat} {K : List (Nat × Nat)} (h : zB M) {to_ : Nat} : ∀ n l, zB (vcF M K to_ n l) := by
  intro n
  induction n with
  | zero => intro l; exact zB.nil
  | succ n ih =>
    intro l
    simp only [Jvm.Pilot.CMailPartsLaw_law_r4041_3cd308.vcF]
    split
    · exact (h.sub _ _).app (ih _)
    · exact zB.nil
theorem m_copyValue_aux {j : Nat} (hj : j < 20) (hj2 : j ≠ 2) (hcap : zcap j = 1500) {to_ : Nat} (ht : to_ < 2 ^ 30) {post : xhp → Prop} : ∀ n l (z : zS) (f : xhp), zMP b f ad z → zB (z.1 2) → zL (z.1 2) z.2.2.1 → to_ - l = n → l < 2 ^ 30 → (z.1 j).length + (vcF (z.1 2) z.2.2.1 to_ n l).length ≤ 1500 → (∀ f', zMP b f' ad (va_up z.1 j (z.1 j ++ vcF (z.1 2) z.2.2.1 to_ n l), z.2) → post f') → w_Ma_copyValue_29 post (n + 1) (zml ad) (nI to_) (ro ad j) (nI l) f := by
  intro n
  induction n with
  | zero =>
    intro l z f h hB hL hl h30 hc hp
    exact ⟨fun _ => hp f (h.id j (by simp [vcF])), fun c => absurd (nI_le (by omega) (by omega)) c⟩
  | succ n ih =>
    intro l z f h hB hL hl h30 hc hp
    have hlen := h.len (j := 2) (by decide)
    have hle := hL.f_le l
    simp only [vcF] at hp hc
    refine ⟨fun c => ?_, fun _ => ⟨h.mO, m_beginsBlank h hB (by omega) hL ⟨fun c => ?_, fun c => ⟨_, h.mb, h.mO, m_startOf h (by omega) ⟨h.mO, m_stopOf h (by omega) ⟨h.rO hj, ?_⟩⟩⟩⟩⟩⟩
    · rw [nI_leI (by omega) (by omega)] at c; omega
    · rw [zb_0] at c
      rw [if_neg (by rw [c]; simp)] at hp
      exact hp f (h.id j (by simp))
    · rw [zb_0, Bool.not_eq_false] at c
      rw [if_pos ⟨by omega, c⟩] at hp hc
      rw [List.length_append, sub_len hle.2] at hc
      refine m_addRange (by decide) hj (Ne.symm hj2) h hle.1 hle.2 (by omega) (fun f1 hf1 => ?_)
      rw [nI_1]
      have e2 : (va_up z.1 j (z.1 j ++ sub (z.1 2) (lf (z.1 2) z.2.2.1 l) (lt (z.1 2) z.2.2.1 l))) 2 = z.1 2 := zup_ne _ _ (Ne.symm hj2)
      refine ih (l + 1) _ f1 hf1 (by dsimp only; rw [e2]; exact hB) (by dsimp only; rw [e2]; exact hL) (by omega) (by omega) ?_ (fun f2 hf2 => hp f2 ?_)
      · dsimp only; rw [e2, zup_self, List.length_append, sub_len hle.2]; omega
      · dsimp only at hf2; rw [e2, zup_self, bx_uu, List.append_assoc] at hf2; exact hf2
theorem m_copyValue (h : zMP b f ad z) {j : Nat} (hj : j < 20) (hj2 : j ≠ 2) (hcap : zcap j = 1500) (hB : zB (z.1 2)) (hL : zL (z.1 2) z.2.2.1) {l c to_ : Nat} (hl : l < 2 ^ 29) (ht : to_ < 2 ^ 30) (hc : colL (z.1 2) z.2.2.1 l = some c) {post : xhp → Prop} (hp : ∀ f', zMP b f' ad (va_up z.1 j (valL (z.1 2) z.2.2.1 l c to_), z.2) → post f') : w_Ma_copyValue post (zml ad) (nI l) (nI to_) (ro ad j) f := by
  have hlen := h.len (j := 2) (by decide)
  have hle := hL.f_le l
  have hcl := colL_lt hc
  have hn := hL.f_next l
  refine ⟨h.rO hj, m_clear hj h (fun f1 h1 => ⟨_, h1.mb, h1.mO, ?_⟩)⟩
  have e2 : (va_up z.1 j []) 2 = z.1 2 := zup_ne _ _ (Ne.symm hj2)
  refine m_colonOf h1 (by dsimp only; rw [e2]; exact hB) (by omega) (by dsimp only; rw [e2]; exact hL) ⟨h1.mO, m_stopOf h1 (by omega) ⟨h1.rO hj, ?_⟩⟩
  dsimp only
  rw [e2, hc]
  show w_Ro_addRange _ _ _ (nI c + 1) _ _
  rw [nI_1 c]
  have hv := vcF_len hL (to_ := to_) (to_ - (l + 1)) (l + 1)
  refine m_addRange (i := 2) (by decide) hj (Ne.symm hj2) h1 (by omega) (by dsimp only; rw [e2]; exact hle.2) (by dsimp only; rw [zup_self]; simp; omega) (fun f2 h2 => ⟨to_ - (l + 1) + 1, ?_⟩)
  rw [nI_1 l]
  dsimp only at h2
  rw [e2, zup_self, bx_uu, List.nil_append] at h2
  have e3 : (va_up z.1 j (sub (z.1 2) (c + 1) (lt (z.1 2) z.2.2.1 l))) 2 = z.1 2 := zup_ne _ _ (Ne.symm hj2)
  refine m_copyValue_aux hj hj2 hcap ht _ _ _ f2 h2 (by dsimp only; rw [e3]; exact hB) (by dsimp only; rw [e3]; exact hL) rfl (by omega) ?_ (fun f3 h3 => hp f3 ?_)
  · dsimp only; rw [e3, zup_self, sub_len hle.2]; omega
  · dsimp only at h3; rw [e3, zup_self, bx_uu] at h3; exact h3
theorem jnF_len {M : List Nat} {K : List (Nat × Nat)} (h : zL M K) {from_ to_ : Nat} (ht : to_ ≤ K.length) : ∀ n l, from_ ≤ l → l ≤ K.length → (jnF M K from_ to_ n l).length + lf M K l ≤ M.length + (if from_ < l then 1 else 0) := by
  intro n
  induction n with
  | zero => intro l _ _; have := h.f_le l; simp [jnF]; omega
  | succ n ih =>
    intro l hf hlK
    have h1 := h.f_le l
    simp only [jnF]
    split
    · rename_i hl
      have h2 := h.f_next l
      have h3 := ih (l + 1) (by omega) (by omega)
      rw [if_pos (by omega)] at h3
      have h4 : l + 1 < K.length → lt M K l < lf M K (l + 1) := fun hh => h.f_next2 hh
      rw [List.length_append, List.length_append, sub_len h1.2]
      by_cases hk : l + 1 < K.length
      · have := h4 hk
        split <;> simp <;> omega
      · have hto : to_ ≤ l + 1 := by omega
        have e0 : jnF M K from_ to_ n (l + 1) = [] := by
          cases n with
          | zero => rfl
          | succ n => simp only [jnF]; rw [if_neg (by omega)]
        rw [e0]
        split <;> simp <;> omega
    · simp; omega
theorem m_copyLines_aux {j : Nat} (hj : j < 20) (hj2 : j ≠ 2) (hcap : zcap j = 1500) {from_ to_ : Nat} (hf : from_ < 2 ^ 30) (ht : to_ < 2 ^ 30) {post : xhp → Prop} : ∀ n l (z : zS) (f : xhp), zMP b f ad z → zL (z.1 2) z.2.2.1 → to_ - l = n → l < 2 ^ 30 → (z.1 j).length + (jnF (z.1 2) z.2.2.1 from_ to_ n l).length ≤ 1500 → (∀ f', zMP b f' ad (va_up z.1 j (z.1 j ++ jnF (z.1 2) z.2.2.1 from_ to_ n l), z.2) → post f') → w_Ma_copyLines_7 post (n + 1) (zml ad) (nI from_) (nI to_) (ro ad j) (nI l) f := by
  intro n
  induction n with
  | zero =>
    intro l z f h hL hl h30 hc hp
    exact ⟨fun _ => hp f (h.id j (by simp [jnF])), fun c => absurd (nI_le (by omega) (by omega)) c⟩
  | succ n ih =>
    intro l z f h hL hl h30 hc hp
    have hlen := h.len (j := 2) (by decide)
    have hle := hL.f_le l
    simp only [jnF, if_pos (show l < to_ by omega)] at hp hc
    rw [List.length_append, List.length_append, sub_len hle.2] at hc
    have go : ∀ (P : List Nat) (f1 : xhp), P.length + (lt (z.1 2) z.2.2.1 l - lf (z.1 2) z.2.2.1 l) + (jnF (z.1 2) z.2.2.1 from_ to_ n (l + 1)).length + (z.1 j).length ≤ 1500 → (∀ f', zMP b f' ad (va_up z.1 j (z.1 j ++ (P ++ sub (z.1 2) (lf (z.1 2) z.2.2.1 l) (lt (z.1 2) z.2.2.1 l) ++ jnF (z.1 2) z.2.2.1 from_ to_ n (l + 1))), z.2) → post f') → zMP b f1 ad (va_up z.1 j (z.1 j ++ P), z.2) → w_Ma_copyLines_25 post (w_Ma_copyLines_7 post (n + 1)) (zml ad) (nI from_) (nI to_) (ro ad j) (nI l) f1 := by
      intro P f1 hPc hP h1
      have e2 : (va_up z.1 j (z.1 j ++ P)) 2 = z.1 2 := zup_ne _ _ (Ne.symm hj2)
      refine ⟨_, h1.mb, h1.mO, m_startOf h1 (by omega) ⟨h1.mO, m_stopOf h1 (by omega) ⟨h1.rO hj, ?_⟩⟩⟩
      dsimp only
      rw [e2]
      refine m_addRange (i := 2) (by decide) hj (Ne.symm hj2) h1 hle.1 (by dsimp only; rw [e2]; exact hle.2) (by dsimp only; rw [zup_self, List.length_append]; omega) (fun f2 h2 => ?_)
      dsimp only at h2
      rw [e2, zup_self, bx_uu] at h2
      rw [nI_1]
      have e3 : (va_up z.1 j (z.1 j ++ P ++ sub (z.1 2) (lf (z.1 2) z.2.2.1 l) (lt (z.1 2) z.2.2.1 l))) 2 = z.1 2 := zup_ne _ _ (Ne.symm hj2)
      refine ih (l + 1) _ f2 h2 (by dsimp only; rw [e3]; exact hL) (by omega) (by omega) ?_ (fun f3 h3 => hP f3 ?_)
      · dsimp only; rw [e3, zup_self, List.length_append, List.length_append, sub_len hle.2]; omega
      · dsimp only at h3; rw [e3, zup_self, bx_uu] at h3; simp only [List.append_assoc] at h3 ⊢; exact h3
    refine ⟨fun c => ?_, fun _ => ⟨fun c => ?_, fun c => ⟨h.rO hj, ?_⟩⟩⟩
    · rw [nI_leI (by omega) (by omega)] at c; omega
    · rw [nI_leI (by omega) (by omega)] at c
      rw [if_neg (by omega)] at hp hc
      exact go [] f (by simp at hc ⊢; omega) hp (h.id j (by simp))
    · rw [nI_leI (by omega) (by omega)] at c
      rw [if_pos (by omega)] at hp hc
      simp at hc
      refine m_add (x := 10) hj h (by omega) (fun f1 h1 => go [10] f1 (by simp; omega) hp h1)
theorem m_copyLines (h : zMP b f ad z) {j : Nat} (hj : j < 20) (hj2 : j ≠ 2) (hcap : zcap j = 1500) (hL : zL (z.1 2) z.2.2.1) {from_ to_ : Nat} (hf : from_ ≤ z.2.2.1.length) (ht : to_ ≤ z.2.2.1.length) {post : xhp → Prop} (hp : ∀ f', zMP b f' ad (va_up z.1 j (jn (z.1 2) z.2.2.1 from_ to_), z.2) → post f') : w_Ma_copyLines post (zml ad) (nI from_) (nI to_) (ro ad j) f := by
  have hlen := h.len (j := 2) (by decide)
  have hK : z.2.2.1.length ≤ 1500 := h.2.2.2.2.1.1
  have hj2e : (va_up z.1 j []) 2 = z.1 2 := zup_ne _ _ (Ne.symm hj2)
  have hlj := jnF_len hL (from_ := from_) (to_ := to_) ht (to_ - from_) from_ (Nat.le_refl _) hf
  rw [if_neg (by omega)] at hlj
  refine ⟨h.rO hj, m_clear hj h (fun f1 h1 => ⟨to_ - from_ + 1, ?_⟩)⟩
  refine m_copyLines_aux hj hj2 hcap (by omega) (by omega) _ _ _ f1 h1 (by dsimp only; rw [hj2e]; exact hL) rfl (by omega) (by dsimp only; rw [hj2e, zup_self]; simp; omega) (fun f2 h2 => hp f2 ?_)
  dsimp only at h2
  rw [hj2e, zup_self, bx_uu, List.nil_append] at h2
  exact h2
end ZM3
