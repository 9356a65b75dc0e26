/-! findParts; how far a line's begin is -/
def pos (M : List Nat) (K : List (Nat × Nat)) (l : Nat) : Nat := if l < K.length then lf M K l else M.length + 1
theorem pos_le {M : List Nat} {K : List (Nat × Nat)} (hL : zL M K) (l : Nat) : pos M K l ≤ M.length + 1 := by
  unfold pos
  have := hL.f_le l
  split <;> omega
theorem pos_next {M : List Nat} {K : List (Nat × Nat)} (hL : zL M K) (l : Nat) : pos M K l ≤ pos M K (l + 1) := by
  unfold pos
  have h1 := hL.f_le l
  have h2 := hL.f_next l
  by_cases c : l + 1 < K.length
  · rw [if_pos c, if_pos (by omega)]; omega
  · rw [if_neg c]
    split <;> omega
theorem pos_mono {M : List Nat} {K : List (Nat × Nat)} (hL : zL M K) {a c : Nat} (h : a ≤ c) : pos M K a ≤ pos M K c := by
  induction c with
  | zero => rw [show a = 0 by omega]; exact Nat.le_refl _
  | succ c ih =>
    by_cases q : a = c + 1
    · rw [q]; exact Nat.le_refl _
    · exact Nat.le_trans (ih (by omega)) (pos_next hL c)
theorem pos_mark {M : List Nat} {K : List (Nat × Nat)} (hL : zL M K) {B : List Nat} (hB : 1 ≤ B.length) {l : Nat} (hl : l < K.length) (hm : mk M B (lf M K l) (lt M K l) ≠ 0) : pos M K l + 4 ≤ pos M K (l + 1) := by
  have h1 := hL.f_le l
  have h2 : lf M K l + 3 ≤ lt M K l := by
    unfold mk at hm
    by_cases q : dsh M (lf M K l) (lt M K l) = true ∧ B.length ≤ lt M K l - (lf M K l + 2) ∧ eqF M B (lf M K l + 2) B.length 0 = true
    · omega
    · rw [if_neg q] at hm; exact absurd rfl hm
  unfold pos
  rw [if_pos hl]
  by_cases c : l + 1 < K.length
  · have := hL.f_next2 c
    rw [if_pos c]; omega
  · rw [if_neg c]; omega
/-- parts in order: a line of 3 bytes and its end lies between two of them -/
def chP (M : List Nat) (K : List (Nat × Nat)) (e : Nat) : Nat → List (Nat × Nat) → Prop
  | _, [] => True
  | a, p :: S => a ≤ pos M K p.1 ∧ p.1 ≤ p.2 ∧ p.2 ≤ e ∧ chP M K e (pos M K p.2 + 4) S
theorem chP.le {M : List Nat} {K : List (Nat × Nat)} {e : Nat} : ∀ {S : List (Nat × Nat)} {a a' : Nat}, chP M K e a S → a' ≤ a → chP M K e a' S := by
  intro S
  cases S with
  | nil => intro a a' _ _; trivial
  | cons p S => intro a a' h q; exact ⟨Nat.le_trans q h.1, h.2⟩
theorem prt_ch {M : List Nat} {K : List (Nat × Nat)} (hL : zL M K) {B : List Nat} (hB : 1 ≤ B.length) {e : Nat} (he : e ≤ K.length) : ∀ n l bg a, e - l = n → l ≤ e → (∀ c, bg = some c → c ≤ l ∧ a ≤ pos M K c) → (bg = none → a ≤ pos M K l + 4) → chP M K e a (prt M K B e n l bg) := by
  intro n
  induction n with
  | zero =>
    intro l bg a hn hl h1 h2
    cases bg with
    | none => trivial
    | some c =>
      have := h1 c rfl
      exact ⟨this.2, by show c ≤ e; omega, Nat.le_refl _, trivial⟩
  | succ n ih =>
    intro l bg a hn hl h1 h2
    have hlt : l < e := by omega
    have e1 : prt M K B e (n + 1) l bg = if mk M B (lf M K l) (lt M K l) = 0 then prt M K B e n (l + 1) bg else bg.toList.map (fun a => (a, l)) ++ (if mk M B (lf M K l) (lt M K l) = 2 then [] else prt M K B e n (l + 1) (some (l + 1))) := by
      show (if l < e then _ else _) = _
      rw [if_pos hlt]
    rw [e1]
    have hnx := pos_next hL l
    by_cases c : mk M B (lf M K l) (lt M K l) = 0
    · rw [if_pos c]
      exact ih (l + 1) bg a (by omega) (by omega) (fun q hq => by have := h1 q hq; omega) (fun hq => by have := h2 hq; omega)
    · rw [if_neg c]
      have hpm := pos_mark hL hB (by omega) c
      have tail : ∀ a', a' ≤ pos M K l + 4 → chP M K e a' (if mk M B (lf M K l) (lt M K l) = 2 then [] else prt M K B e n (l + 1) (some (l + 1))) := by
        intro a' ha'
        split
        · trivial
        · exact ih (l + 1) (some (l + 1)) a' (by omega) (by omega) (fun q hq => by cases hq; omega) (fun hq => by cases hq)
      cases bg with
      | none => exact tail a (h2 rfl)
      | some q =>
        have := h1 q rfl
        exact ⟨this.2, by show q ≤ l; omega, by show l ≤ e; omega, tail _ (Nat.le_refl _)⟩
def yPt (y : yS) (S : List (Nat × Nat)) : Prop := (∀ i, i < S.length → y.1 43 i = nI (S.getD i (0, 0)).1 ∧ y.1 44 i = nI (S.getD i (0, 0)).2) ∧ y.2.2.1 42 = nI S.length
section YFp
variable {b : xhp} {ad : Nat → Nat} {M : List Nat} {K : List (Nat × Nat)} {B : List Nat}
theorem y_add {y : yS} {f : xhp} (h : yM b f ad y) {S : List (Nat × Nat)} (hS : yPt y S) (hS4 : S.length < 400) {p q : Nat} {post : xhp → Prop} (hp : ∀ f' y', yM b f' ad y' → yK [43, 44] [42] y y' → yPt y' (S ++ [(p, q)]) → post f') : w_Mo_add post (ad 57) (nI p) (nI q) f := by
  refine ⟨_, ⟨_, h.2.2.1, rfl⟩, nI S.length, ⟨_, h.2.2.1, by rw [← hS.2]; rfl⟩, m_wa h (k := 43) (t := 0) rfl (by decide) (by decide) rfl hS4 (by omega) (fun f5 h5 => ⟨_, ⟨_, h5.2.2.1, rfl⟩, nI S.length, ⟨_, h5.2.2.1, by rw [← hS.2]; rfl⟩, m_wa h5 (k := 44) (t := 0) rfl (by decide) (by decide) rfl hS4 (by omega) (fun f6 h6 => ⟨nI S.length, ⟨_, h6.2.2.1, by rw [← hS.2]; rfl⟩, m_ws h6 rfl (by decide) (by decide) (by decide) (fun f7 h7 => ?_)⟩)⟩)⟩
  refine hp f7 _ h7 ?_ ?_
  · refine ⟨fun j hj => ?_, rfl, fun j hj => ?_, rfl⟩
    · simp only [List.mem_cons, List.not_mem_nil, or_false, not_or] at hj
      dsimp only
      rw [zup_ne _ _ hj.2, zup_ne _ _ hj.1]
    · simp only [List.mem_cons, List.not_mem_nil, or_false] at hj
      dsimp only
      rw [zup_ne _ _ hj]
  · refine ⟨fun i hi => ?_, by dsimp only; rw [zup_self, nI_1]; simp⟩
    simp only [List.length_append, List.length_cons, List.length_nil] at hi
    dsimp only
    rw [zup_self, zup_ne _ _ (show 43 ≠ 44 by decide), zup_self, zup_ne _ _ (show 44 ≠ 43 by decide)]
    by_cases e : i = S.length
    · subst e
      rw [upd_self, upd_self]
      simp [List.getD]
    · rw [upd_ne _ _ e, upd_ne _ _ e]
      have := hS.1 i (by omega)
      simp only [List.getD_eq_getElem?_getD] at this ⊢
      rw [List.getElem?_append_left (by omega)]
      exact this
theorem y_findParts {y : yS} {f : xhp} (h : yM b f ad y) (hM : yMl y M) (hK : yLn y K) (hL : zL M K) (hB : yMk y B) (hB1 : 1 ≤ B.length) {e b0 to_ : Nat} (he : e < 60) (hb : b0 ≤ to_) (hto : to_ ≤ K.length) (e29 : y.1 29 e = nI to_) (e31 : y.1 31 e = nI b0) {post : xhp → Prop} (hp : ∀ f' y', yM b f' ad y' → yK [43, 44] [42] y y' → yPt y' (prt M K B to_ (to_ - b0) b0 none) → post f') : w_Mo_findParts post (ad 57) (nI e) f := by
  have hM2 := hM.2.2.1
  have hKl : K.length ≤ 1500 := Nat.le_trans hL.1 hM2
  have ve : vp_in (nI e) 60 := vp_in_nI he (by decide)
  refine m_ws h rfl (by decide) (by decide) (by decide) (fun f2 h2 => ?_)
  have k2 : yK [43, 44] [42] y (y.1, y.2.1, va_up y.2.2.1 42 0, y.2.2.2) := yK.ws y 0 (by decide)
  have fin : ∀ (bg : Option Nat) (S : List (Nat × Nat)) (y1 : yS) (f1 : xhp), yM b f1 ad y1 → yK [43, 44] [42] y y1 → yPt y1 S → (∀ c, bg = some c → c ≤ 1500 ∧ S.length < 400) → (∀ f' y', yM b f' ad y' → yK [43, 44] [42] y y' → yPt y' (S ++ bg.toList.map (fun a => (a, to_))) → post f') → w_Mo_findParts_93 post (ad 57) (nI e) (oI bg) f1 := by
    intro bg S y1 f1 h1 k1 hS hbg hq
    refine ⟨fun c => ?_, fun c => ⟨_, ⟨_, h1.2.2.1, rfl⟩, _, _, h1.ai 29 (t := 0) rfl (by decide) (by decide), ve, h1.O, ?_⟩⟩
    · rw [oI_none (fun a ha => by have := (hbg a ha).1; omega)] at c
      subst c
      exact hq f1 y1 h1 k1 (by simpa using hS)
    · cases hb0 : bg with
      | none => rw [hb0] at c; exact absurd rfl c
      | some a =>
        rw [nI_cl e (by omega), k1.1 29 (by decide), e29]
        rw [hb0] at hq
        exact y_add h1 hS (hbg a hb0).2 (fun f' y' h' k' hS' => hq f' y' h' (k1.trans k') hS')
  have loop : ∀ (n l : Nat) (bg : Option Nat) (S : List (Nat × Nat)) (y1 : yS) (f1 : xhp), to_ - l = n → l ≤ to_ → yM b f1 ad y1 → yK [43, 44] [42] y y1 → yPt y1 S → (∀ c, bg = some c → c ≤ l) → 4 * (S.length + bg.toList.length) ≤ pos M K l → (∀ f' y', yM b f' ad y' → yK [43, 44] [42] y y' → yPt y' (S ++ prt M K B to_ n l bg) → post f') → w_Mo_findParts_17 post (n + 2) (ad 57) (nI e) (oI bg) (nI l) 1 f1 := by
    intro n
    induction n with
    | zero =>
      intro l bg S y1 f1 hn hl h1 k1 hS hbg h4 hq
      have hpl := pos_le hL l
      refine ⟨_, ⟨_, h1.2.2.1, rfl⟩, _, _, h1.ai 29 (t := 0) rfl (by decide) (by decide), ve, ?_⟩
      rw [nI_cl e (by omega), k1.1 29 (by decide), e29]
      refine ⟨fun _ => fin bg S y1 f1 h1 k1 hS (fun c hc => ⟨by have := hbg c hc; omega, by omega⟩) hq, fun c => absurd (nI_le (by omega) (by omega)) c⟩
    | succ n ih =>
      intro l bg S y1 f1 hn hl h1 k1 hS hbg h4 hq
      have hlt : l < to_ := by omega
      have hpl := pos_le hL l
      have hnx := pos_next hL l
      have e1 : prt M K B to_ (n + 1) l bg = if mk M B (lf M K l) (lt M K l) = 0 then prt M K B to_ n (l + 1) bg else bg.toList.map (fun a => (a, l)) ++ (if mk M B (lf M K l) (lt M K l) = 2 then [] else prt M K B to_ n (l + 1) (some (l + 1))) := by
        show (if l < to_ then _ else _) = _
        rw [if_pos hlt]
      rw [e1] at hq
      refine ⟨_, ⟨_, h1.2.2.1, rfl⟩, _, _, h1.ai 29 (t := 0) rfl (by decide) (by decide), ve, ?_⟩
      rw [nI_cl e (by omega), k1.1 29 (by decide), e29]
      refine ⟨fun c => absurd c (by rw [nI_leI (by omega) (by omega)]; omega), fun _ => ⟨fun c => absurd c (by decide), fun _ => ⟨h1.O, y_marked h1 (hM.k k1 (by decide) (by decide)) (hK.k k1 (by decide) (by decide) (by decide)) hL (hB.k k1 (by decide) (by decide)) (by omega) ?_⟩⟩⟩
      have hm2 := mk_le M B (lf M K l) (lt M K l)
      have hpm := pos_mark hL hB1 (l := l) (by omega)
      generalize mk M B (lf M K l) (lt M K l) = m at *
      have m0 : nI m ≤ (0 : Int32) ↔ m ≤ 0 := nI_leI (b := 0) (by omega) (by omega)
      have m1 : nI m = (1 : Int32) ↔ m = 1 := nI_eq (b := 1) (by omega) (by omega)
      have m2 : nI m = (2 : Int32) ↔ m = 2 := nI_eq (b := 2) (by omega) (by omega)
      -- behind the add
      have f55 : m ≠ 0 → ∀ (S1 : List (Nat × Nat)) (y3 : yS) (f3 : xhp) (bg' : Int32), yM b f3 ad y3 → yK [43, 44] [42] y y3 → yPt y3 S1 → S1 = S ++ bg.toList.map (fun a => (a, l)) → w_Mo_findParts_55 post (w_Mo_findParts_17 post (n + 2)) (ad 57) (nI e) bg' (nI l) (nI m) f3 := by
        intro hm S1 y3 f3 bg' h3 k3 hS3 eS
        have hS1l : S1.length = S.length + bg.toList.length := by rw [eS]; simp
        have hpm' := hpm hm
        rw [if_neg hm] at hq
        refine ⟨fun c => absurd (m0.mp c) (by omega), fun _ => ⟨fun c => ?_, fun c => ?_⟩⟩
        · rw [m1] at c
          have em : m = 2 := by omega
          rw [if_pos em, List.append_nil] at hq
          refine ⟨fun _ => ?_, fun w => absurd (m2.mpr em) w⟩
          show w_Mo_findParts_17 post (n + 2) (ad 57) (nI e) (oI none) (nI l + 1) 0 f3
          have last : w_Mo_findParts_93 post (ad 57) (nI e) (oI none) f3 := fin none S1 y3 f3 h3 k3 hS3 (fun c hc => by cases hc) (fun f' y' h' k' hS' => hq f' y' h' k' (by rw [← eS]; simpa using hS'))
          refine ⟨_, ⟨_, h3.2.2.1, rfl⟩, _, _, h3.ai 29 (t := 0) rfl (by decide) (by decide), ve, ?_⟩
          exact ⟨fun _ => last, fun _ => ⟨fun _ => last, fun w => absurd rfl w⟩⟩
        · rw [m1] at c
          rw [if_neg (by omega)] at hq
          refine ⟨fun w => absurd (m2.mp w) (by omega), fun _ => ?_⟩
          show w_Mo_findParts_17 post (n + 2) (ad 57) (nI e) (nI l + 1) (nI l + 1) 1 f3
          rw [nI_1]
          refine ih (l + 1) (some (l + 1)) S1 y3 f3 (by omega) (by omega) h3 k3 hS3 (fun c hc => by cases hc; omega) (by show 4 * (S1.length + 1) ≤ _; rw [hS1l]; omega) (fun f' y' h' k' hS' => hq f' y' h' k' ?_)
          rw [← List.append_assoc, ← eS]; exact hS'
      refine ⟨fun c => ?_, fun c => ⟨fun c1 => ?_, fun c1 => ⟨h1.O, ?_⟩⟩⟩
      · have hm : m = 0 := by have := m0.mp c; omega
        rw [if_pos hm] at hq
        refine ⟨fun _ => ⟨fun w => absurd (m2.mp w) (by omega), fun _ => ?_⟩, fun w => absurd c w⟩
        show w_Mo_findParts_17 post (n + 2) (ad 57) (nI e) (oI bg) (nI l + 1) 1 f1
        rw [nI_1]
        exact ih (l + 1) bg S y1 f1 (by omega) (by omega) h1 k1 hS (fun c hc => by have := hbg c hc; omega) (by omega) hq
      · have hm : m ≠ 0 := fun w => c (m0.mpr (by omega))
        rw [oI_none (fun a ha => by have := hbg a ha; omega)] at c1
        refine f55 hm S y1 f1 _ h1 k1 hS ?_
        rw [c1]; simp
      · have hm : m ≠ 0 := fun w => c (m0.mpr (by omega))
        cases hb0 : bg with
        | none => rw [hb0] at c1; exact absurd rfl c1
        | some a =>
          have ha := hbg a hb0
          rw [hb0] at h4
          simp only [Option.toList, List.length_cons, List.length_nil] at h4
          exact y_add h1 hS (by omega) (fun f' y' h' k' hS' => f55 hm _ y' f' _ h' (k1.trans k') hS' (by rw [hb0]; rfl))
  refine ⟨_, ⟨_, h2.2.2.1, rfl⟩, _, _, h2.ai 31 (t := 0) rfl (by decide) (by decide), ve, (to_ - b0) + 2, ?_⟩
  rw [nI_cl e (by omega), e31]
  exact loop (to_ - b0) b0 none [] _ f2 rfl hb h2 k2 ⟨fun i hi => absurd hi (Nat.not_lt_zero _), by dsimp only; rw [zup_self]; rfl⟩ (fun c hc => by cases hc) (by simp) (fun f' y' h' k' hS' => hp f' y' h' k' hS')
end YFp
