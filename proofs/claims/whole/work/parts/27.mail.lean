/-! Mail: marks, and the lines themselves -/
def dsh (M : List Nat) (i e : Nat) : Bool := decide (i + 1 < e) && (M.getD i 0 == 45 && M.getD (i + 1) 0 == 45)
def eqF (M B : List Nat) (a : Nat) : Nat → Nat → Bool
  | 0, _ => true
  | n + 1, k => if M.getD (a + k) 0 = B.getD k 0 then eqF M B a n (k + 1) else false
/-- what a line s .. e is to a MULTI with the boundary B -/
def mk (M B : List Nat) (s e : Nat) : Nat :=
  if dsh M s e = true ∧ B.length ≤ e - (s + 2) ∧ eqF M B (s + 2) B.length 0 = true then
    (if e ≤ skip isBlk M (if dsh M (s + 2 + B.length) e = true then s + 2 + B.length + 2 else s + 2 + B.length) e then (if dsh M (s + 2 + B.length) e = true then 2 else 1) else 0)
  else 0
/-- the lines: s where the present one begins, i where we are -/
def tk (M : List Nat) : Nat → Nat → Nat → List (Nat × Nat)
  | 0, _, _ => []
  | n + 1, s, i => if i < M.length then (if M.getD i 0 = 10 then (s, if s < i ∧ M.getD (i - 1) 0 = 13 then i - 1 else i) :: tk M n (i + 1) (i + 1) else tk M n s (i + 1)) else (if s < M.length then [(s, M.length)] else [])
def lns (M : List Nat) : List (Nat × Nat) := tk M (M.length + 1) 0 0
section ZM4
variable {b f : xhp} {ad : Nat → Nat} {z : zS}
theorem m_hasDashes (h : zMP b f ad z) (hB : zB (z.1 2)) {i e : Nat} (hi : i < 2 ^ 29) (he : e ≤ (z.1 2).length) {post : Int32 → xhp → Prop} (hp : post (zb (dsh (z.1 2) i e)) f) : w_Ma_hasDashes post (zml ad) (nI i) (nI e) f := by
  have hlen := h.len (j := 2) (by decide)
  unfold w_Ma_hasDashes
  rw [nI_1]
  refine ⟨fun c => ?_, fun c => ⟨_, h.mb, h.rO (by decide), m_get (h.row (by decide)) ?_⟩⟩
  · rw [nI_leI (by omega) (by omega)] at c
    rw [dsh, decide_eq_false (by omega), Bool.false_and] at hp; exact ⟨Or.inl rfl, hp⟩
  · rw [nI_leI (by omega) (by omega)] at c
    rw [dsh, decide_eq_true (by omega), Bool.true_and] at hp
    rw [rget_nI (by omega) (by omega)]
    have h1 := hB i
    have h2 := hB (i + 1)
    have e1 : nI ((z.1 2).getD i 0) = (45 : Int32) ↔ (z.1 2).getD i 0 = 45 := nI_eq (b := 45) (by omega) (by omega)
    have e2 : nI ((z.1 2).getD (i + 1) 0) = (45 : Int32) ↔ (z.1 2).getD (i + 1) 0 = 45 := nI_eq (b := 45) (by omega) (by omega)
    refine ⟨fun c1 => ?_, fun c1 => ⟨_, h.mb, h.rO (by decide), m_get (h.row (by decide)) ?_⟩⟩
    · rw [e1] at c1
      rw [beq_eq_false_iff_ne.mpr c1, Bool.false_and] at hp; exact ⟨Or.inl rfl, hp⟩
    · rw [e1] at c1
      rw [beq_iff_eq.mpr c1, Bool.true_and] at hp
      rw [rget_nI (by omega) (by omega)]
      refine ⟨fun c2 => ?_, fun c2 => ?_⟩
      · rw [e2] at c2
        rw [beq_eq_false_iff_ne.mpr c2] at hp; exact ⟨Or.inl rfl, hp⟩
      · rw [e2] at c2
        rw [beq_iff_eq.mpr c2] at hp; exact ⟨Or.inr rfl, hp⟩
theorem m_mark116 (h : zMP b f ad z) (hB : zB (z.1 2)) {e : Nat} (he : e ≤ (z.1 2).length) {q : Bool} {post : Int32 → xhp → Prop} : ∀ n i, e - i = n → i < 2 ^ 30 → post (nI (if e ≤ skp isBlk (z.1 2) e n i then (if q = true then 2 else 1) else 0)) f → w_Ma_markOf_116 post (n + 1) (zml ad) (nI e) (zb q) (nI i) f := by
  have hlen := h.len (j := 2) (by decide)
  intro n
  induction n with
  | zero =>
    intro i hi h30 hp
    rw [skp, if_pos (show e ≤ i by omega)] at hp
    refine ⟨fun _ => ⟨fun c => ?_, fun c => ?_⟩, fun c => absurd (nI_le (by omega) (by omega)) c⟩
    · rw [zb_0] at c; subst c; exact hp
    · rw [zb_0, Bool.not_eq_false] at c; subst c; exact hp
  | succ n ih =>
    intro i hi h30 hp
    refine ⟨fun c => ?_, fun c => ⟨_, h.mb, h.rO (by decide), m_get (h.row (by decide)) ?_⟩⟩
    · rw [nI_leI (by omega) (by omega)] at c; omega
    · rw [rget_nI (by omega) (by omega)]
      have hb := hB i
      simp only [skp, if_pos (show i < e by omega)] at hp
      refine m_blank (by omega) ?_
      rw [ite_zb]
      refine ⟨fun c1 => ?_, fun c1 => ?_⟩
      · rw [zb_0, Bool.not_eq_false] at c1
        rw [if_pos c1] at hp
        rw [nI_1]; exact ih (i + 1) (by omega) (by omega) hp
      · rw [zb_0] at c1
        rw [if_neg (show ¬ isBlk ((z.1 2).getD i 0) = true by rw [c1]; decide), if_neg (by omega)] at hp; exact hp
theorem m_mark44 (h : zMP b f ad z) (hB : zB (z.1 2)) {j a e : Nat} (hj : j < 20) (hBj : zB (z.1 j)) (ha : a + (z.1 j).length ≤ e) (he : e ≤ (z.1 2).length) {post : Int32 → xhp → Prop} : ∀ n k, k + n = (z.1 j).length → post (nI (if eqF (z.1 2) (z.1 j) a n k = true then (if e ≤ skip isBlk (z.1 2) (if dsh (z.1 2) (a + (z.1 j).length) e = true then a + (z.1 j).length + 2 else a + (z.1 j).length) e then (if dsh (z.1 2) (a + (z.1 j).length) e = true then 2 else 1) else 0) else 0)) f → w_Ma_markOf_44 post (n + 1) (zml ad) (ro ad j) (nI e) (nI a) (nI k) f := by
  have hlen := h.len (j := 2) (by decide)
  intro n
  induction n with
  | zero =>
    intro k hk hp
    simp only [eqF, if_true] at hp
    refine ⟨_, h.sz hj, fun _ => ⟨_, h.sz hj, h.mO, ?_⟩, fun c => absurd (nI_le (by omega) (by omega)) c⟩
    rw [nI_add]
    refine m_hasDashes h hB (by omega) he ⟨fun c => ?_, fun c => ?_⟩
    · have c0 := c
      rw [zb_0] at c
      rw [c] at hp ⊢
      exact ⟨_, m_mark116 h hB he (q := false) _ _ rfl (by omega) hp⟩
    · rw [zb_0, Bool.not_eq_false] at c
      rw [c] at hp ⊢
      refine ⟨e - (a + (z.1 j).length + 2) + 1, ?_⟩
      have e2 : nI (a + (z.1 j).length) + 2 = nI (a + (z.1 j).length + 2) := nI_add _ 2
      rw [e2]
      exact m_mark116 h hB he (q := true) _ _ rfl (by omega) hp
  | succ n ih =>
    intro k hk hp
    have h1 := hB (a + k)
    have h2 := hBj k
    refine ⟨_, h.sz hj, fun c => ?_, fun c => ⟨_, h.mb, h.rO (by decide), ?_⟩⟩
    · rw [nI_leI (by omega) (by omega)] at c; omega
    · rw [nI_add a k]
      refine m_get (h.row (by decide)) ⟨h.rO hj, m_get (h.row hj) ?_⟩
      rw [rget_nI (by omega) (by omega), rget_nI (by omega) (by omega)]
      refine ⟨fun c1 => ?_, fun c1 => ?_⟩
      · rw [nI_eq (by omega) (by omega)] at c1
        rw [show eqF (z.1 2) (z.1 j) a (n + 1) k = eqF (z.1 2) (z.1 j) a n (k + 1) from if_pos c1] at hp
        rw [nI_1]; exact ih (k + 1) (by omega) hp
      · rw [nI_eq (by omega) (by omega)] at c1
        rw [show eqF (z.1 2) (z.1 j) a (n + 1) k = false from if_neg c1, if_neg (by decide)] at hp; exact hp
theorem m_markOf (h : zMP b f ad z) (hB : zB (z.1 2)) (hL : zL (z.1 2) z.2.2.1) {l j : Nat} (hl : l < 2 ^ 31) (hj : j < 20) (hBj : zB (z.1 j)) {post : Int32 → xhp → Prop} (hp : post (nI (mk (z.1 2) (z.1 j) (lf (z.1 2) z.2.2.1 l) (lt (z.1 2) z.2.2.1 l))) f) : w_Ma_markOf post (zml ad) (nI l) (ro ad j) f := by
  have hlen := h.len (j := 2) (by decide)
  have hlj := h.len hj
  have hle := hL.f_le l
  refine ⟨h.mO, m_stopOf h hl ⟨h.mO, m_startOf h hl ⟨h.mO, m_hasDashes h hB (by omega) hle.2 ⟨fun c => ⟨_, h.sz hj, ?_⟩, fun c => ?_⟩⟩⟩⟩
  · rw [zb_0, Bool.not_eq_false] at c
    have hd : lf (z.1 2) z.2.2.1 l + 1 < lt (z.1 2) z.2.2.1 l := by
      unfold dsh at c; simp only [Bool.and_eq_true, decide_eq_true_eq] at c; exact c.1
    have e2 : nI (lf (z.1 2) z.2.2.1 l) + 2 = nI (lf (z.1 2) z.2.2.1 l + 2) := nI_add _ 2
    rw [e2, pk_sub (by omega)]
    refine ⟨fun c1 => ?_, fun c1 => ?_⟩
    · rw [nI_leI (by omega) (by omega)] at c1
      refine ⟨_, m_mark44 h hB hj hBj (by omega) hle.2 (z.1 j).length 0 (by omega) ?_⟩
      rw [mk] at hp
      by_cases he : eqF (z.1 2) (z.1 j) (lf (z.1 2) z.2.2.1 l + 2) (z.1 j).length 0 = true
      · rw [if_pos ⟨c, c1, he⟩] at hp; rw [if_pos he]; exact hp
      · rw [if_neg (fun hh => he hh.2.2)] at hp; rw [if_neg he]; exact hp
    · rw [nI_leI (by omega) (by omega)] at c1
      rw [mk, if_neg (fun hh => c1 hh.2.1)] at hp; exact hp
  · rw [zb_0] at c
    rw [mk, if_neg (fun hh => by rw [c] at hh; exact absurd hh.1 (by decide))] at hp; exact hp
theorem gd2_app {A B : List (Nat × Nat)} {i : Nat} : (A ++ B).getD i (0, 0) = if i < A.length then A.getD i (0, 0) else B.getD (i - A.length) (0, 0) := by
  simp only [List.getD_eq_getElem?_getD]
  split
  · rw [List.getElem?_append_left (by assumption)]
  · rw [List.getElem?_append_right (by omega)]
theorem m_addLine (h : zMP b f ad z) {s t : Nat} (hK : z.2.2.1.length < 1500) {post : xhp → Prop} (hp : ∀ f', zMP b f' ad (z.1, z.2.1, z.2.2.1 ++ [(s, t)], z.2.2.2) → post f') : w_Ma_addLine post (zml ad) (nI s) (nI t) f := by
  obtain ⟨l1, l2, st, sp, l3, l4, l5⟩ := h.2.2.2.2.1
  have n1 : zst ad ≠ zml ad := h.1.ne (by decide) (by decide) (by decide)
  have n2 : zsp ad ≠ zml ad := h.1.ne (by decide) (by decide) (by decide)
  have n3 : zsp ad ≠ zst ad := h.1.ne (by decide) (by decide) (by decide)
  refine ⟨_, ⟨_, l2, rfl⟩, fun c => absurd c (nI_pos (by omega)), fun _ => ⟨_, ⟨_, l2, rfl⟩, _, ⟨_, l2, rfl⟩, _, _, _, l3, by decide, fun c => ?_, fun _ => ⟨_, ⟨_, l2, rfl⟩, _, ⟨_, l2, rfl⟩, _, _, _, l4, by decide, fun c => ?_, fun _ => ⟨_, ⟨_, l2, rfl⟩, _, ⟨_, l2, rfl⟩, _, _, l3, vp_in_nI hK (by omega), fun f1 ef1 => ?_⟩⟩⟩⟩
  · rw [nI_leI (by omega) (by omega)] at c; omega
  · rw [nI_leI (by omega) (by omega)] at c; omega
  · have a1 : f1 (zml ad) = some (.inr (1, [.ref (ro ad 2), .ref (zst ad), .ref (zsp ad), .int (nI z.2.2.1.length)])) := by rw [ef1, xup_ne _ _ n1.symm]; exact l2
    have a2 : f1 (zsp ad) = some (.inl (0, 1500, xbI sp)) := by rw [ef1, xup_ne _ _ n3]; exact l4
    refine ⟨_, ⟨_, a1, rfl⟩, _, ⟨_, a1, rfl⟩, _, _, a2, vp_in_nI hK (by omega), fun f2 ef2 => ?_⟩
    have b1 : f2 (zml ad) = some (.inr (1, [.ref (ro ad 2), .ref (zst ad), .ref (zsp ad), .int (nI z.2.2.1.length)])) := by rw [ef2, xup_ne _ _ n2.symm]; exact a1
    refine ⟨_, ⟨_, b1, rfl⟩, _, b1, by simp, fun f3 ef3 => hp f3 ?_⟩
    refine h.setLin ⟨by simp; omega, ?_, upd st (nI z.2.2.1.length).toNatClampNeg (nI s), upd sp (nI z.2.2.1.length).toNatClampNeg (nI t), ?_, ?_, fun i hi => ?_⟩ (fun a h1 h2 h3 => ?_)
    · rw [ef3, xup_self]; simp [nI_1]
    · rw [ef3, xup_ne _ _ n1, ef2, xup_ne _ _ n3.symm, ef1, xup_self]
    · rw [ef3, xup_ne _ _ n2, ef2, xup_self]
    · rw [nI_clamp (by omega), gd2_app]
      simp only [List.length_append, List.length_cons, List.length_nil] at hi
      by_cases e : i = z.2.2.1.length
      · subst e; rw [if_neg (by omega), pk_us, pk_us]; simp
      · rw [if_pos (by omega), pk_un e, pk_un e]; exact l5 i (by omega)
    · rw [ef3, xup_ne _ _ h1, ef2, xup_ne _ _ h3, ef1, xup_ne _ _ h2]
theorem m_take_aux {post : xhp → Prop} : ∀ n s i (z : zS) (f : xhp), zMP b f ad z → zB (z.1 2) → z.2.2.1.length ≤ s → s ≤ i → i + n = (z.1 2).length → (∀ f', zMP b f' ad (z.1, z.2.1, z.2.2.1 ++ tk (z.1 2) (n + 1) s i, z.2.2.2) → post f') → w_Ma_take_29 post (n + 1) (zml ad) (nI s) (nI i) f := by
  intro n
  induction n with
  | zero =>
    intro s i z f h hB hK hs hi hp
    have hlen := h.len (j := 2) (by decide)
    simp only [tk, if_neg (show ¬ i < (z.1 2).length by omega)] at hp
    refine ⟨_, h.mb, _, h.sz (by decide), fun _ => ⟨_, h.mb, _, h.sz (by decide), fun c => ?_, fun c => ⟨_, h.mb, _, h.sz (by decide), h.mO, ?_⟩⟩, fun c => absurd (nI_le (by omega) (by omega)) c⟩
    · rw [nI_leI (by omega) (by omega)] at c
      rw [if_neg (by omega), List.append_nil] at hp; exact hp f h
    · rw [nI_leI (by omega) (by omega)] at c
      rw [if_pos (by omega)] at hp
      exact m_addLine h (by omega) hp
  | succ n ih =>
    intro s i z f h hB hK hs hi hp
    have hlen := h.len (j := 2) (by decide)
    have hb := hB i
    rw [tk, if_pos (show i < (z.1 2).length by omega)] at hp
    have e10 : nI ((z.1 2).getD i 0) = (10 : Int32) ↔ (z.1 2).getD i 0 = 10 := nI_eq (b := 10) (by omega) (by omega)
    have add : ∀ t, (z.1 2).getD i 0 = 10 → (if s < i ∧ (z.1 2).getD (i - 1) 0 = 13 then i - 1 else i) = t → w_Ma_addLine (fun f1 => w_Ma_take_89 post (w_Ma_take_29 post (n + 1)) (zml ad) (nI i + 1) (nI i) f1) (zml ad) (nI s) (nI t) f := by
      intro t c ht
      rw [if_pos c, ht] at hp
      refine m_addLine h (by omega) (fun f1 h1 => ?_)
      show w_Ma_take_29 post (n + 1) _ (nI i + 1) (nI i + 1) f1
      rw [nI_1]
      refine ih (i + 1) (i + 1) _ f1 h1 hB (by simp; omega) (Nat.le_refl _) (by dsimp only; omega) (fun f2 h2 => hp f2 ?_)
      dsimp only at h2
      rw [List.append_assoc] at h2; exact h2
    refine ⟨_, h.mb, _, h.sz (by decide), fun c => ?_, fun c => ⟨_, h.mb, h.rO (by decide), m_get (h.row (by decide)) ?_⟩⟩
    · rw [nI_leI (by omega) (by omega)] at c; omega
    · rw [rget_nI (by omega) (by omega)]
      refine ⟨fun c1 => ?_, fun c1 => ⟨fun c2 => ⟨h.mO, ?_⟩, fun c2 => ⟨_, h.mb, h.rO (by decide), ?_⟩⟩⟩
      · rw [e10] at c1
        rw [if_neg c1] at hp
        show w_Ma_take_29 post (n + 1) _ _ (nI i + 1) f
        rw [nI_1]; exact ih s (i + 1) z f h hB hK (by omega) (by omega) hp
      · rw [e10] at c1
        rw [nI_leI (by omega) (by omega)] at c2
        exact add i c1 (if_neg (by omega))
      · rw [e10] at c1
        rw [nI_leI (by omega) (by omega)] at c2
        have hb1 := hB (i - 1)
        have e1 : nI i - 1 = nI (i - 1) := pk_sub (b := 1) (by omega)
        have e13 : nI ((z.1 2).getD (i - 1) 0) = (13 : Int32) ↔ (z.1 2).getD (i - 1) 0 = 13 := nI_eq (b := 13) (by omega) (by omega)
        rw [e1]
        refine m_get (h.row (by decide)) ?_
        rw [rget_nI (by omega) (by omega)]
        refine ⟨fun c3 => ⟨h.mO, ?_⟩, fun c3 => ⟨h.mO, ?_⟩⟩
        · rw [e13] at c3; exact add i c1 (if_neg (fun hh => c3 hh.2))
        · rw [e13] at c3; exact add (i - 1) c1 (if_pos ⟨by omega, c3⟩)
/-- take(tape): the tape is the MAIL, with its lines -/
theorem m_take (h : zMP b f ad z) (hB : zB (z.1 1)) {post : xhp → Prop} (hp : ∀ f', zMP b f' ad (va_up z.1 2 (z.1 1), z.2.1, lns (z.1 1), z.2.2.2) → post f') : w_Ma_take post (zml ad) (ro ad 1) f := by
  have hlen := h.len (j := 1) (by decide)
  have hc1 := (h.row (j := 1) (by decide)).1
  have e0 : (va_up z.1 2 []) 1 = z.1 1 := zup_ne _ _ (by decide)
  refine ⟨_, h.mb, h.rO (by decide), m_clear (by decide) h (fun f1 h1 => ⟨_, h1.mb, _, h1.sz (by decide), h1.rO (by decide), ?_⟩)⟩
  refine m_addRange (i := 1) (a := 0) (by decide) (by decide) (by decide) h1 (Nat.zero_le _) (Nat.le_refl _) (by dsimp only; rw [e0, zup_self]; show 0 + (_ - 0) ≤ 1500; omega) (fun f2 h2 => ?_)
  dsimp only at h2
  rw [e0, zup_self, bx_uu, List.nil_append] at h2
  have es : sub (z.1 1) 0 (z.1 1).length = z.1 1 := by simp [sub]
  rw [es] at h2
  obtain ⟨l1, l2, st, sp, l3, l4, l5⟩ := h2.2.2.2.2.1
  refine ⟨_, l2, by simp, fun f3 ef3 => ?_⟩
  have n1 : zst ad ≠ zml ad := h.1.ne (by decide) (by decide) (by decide)
  have n2 : zsp ad ≠ zml ad := h.1.ne (by decide) (by decide) (by decide)
  have h3 : zMP b f3 ad (va_up z.1 2 (z.1 1), z.2.1, [], z.2.2.2) := h2.setLin (ls := []) ⟨Nat.zero_le _, by rw [ef3, xup_self]; rfl, st, sp, by rw [ef3, xup_ne _ _ n1]; exact l3, by rw [ef3, xup_ne _ _ n2]; exact l4, fun i hi => absurd hi (Nat.not_lt_zero i)⟩ (fun a h1 _ _ => by rw [ef3, xup_ne _ _ h1])
  have es2 : (va_up z.1 2 (z.1 1)) 2 = z.1 1 := zup_self _ _ _
  refine ⟨_, m_take_aux (z.1 1).length 0 0 _ f3 h3 (by dsimp only; rw [es2]; exact hB) (Nat.zero_le _) (Nat.zero_le _) (by dsimp only; rw [es2]; omega) (fun f4 h4 => hp f4 ?_)⟩
  dsimp only at h4
  rw [es2, List.nil_append] at h4
  exact h4
end ZM4
