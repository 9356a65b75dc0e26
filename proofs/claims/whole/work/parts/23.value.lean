/-! more of Value: names, trimmed parts, quotation marks, items, parameters -/
def hasNmF (L N : List Nat) (a : Nat) : Nat → Nat → Bool
  | 0, _ => true
  | n + 1, k => if a + k < L.length ∧ low (L.getD (a + k) 0) = low (N.getD k 0) then hasNmF L N a n (k + 1) else false
/-- whether the name N stands in L from a on, great and small alike -/
def hasNm (L N : List Nat) (a : Nat) : Bool := hasNmF L N a N.length 0
def tS (L : List Nat) (s e : Nat) : Nat := skip isBlk L s e
def tE (L : List Nat) (s e : Nat) : Nat := trR L (tS L s e) e
/-- without blanks at both ends -/
def trim (L : List Nat) (s e : Nat) : List Nat := sub L (tS L s e) (tE L s e)
def nameEq (L N : List Nat) (s e : Nat) : Bool := decide (tE L s e - tS L s e = N.length) && hasNm L N (tS L s e)
def cloF (V : List Nat) : Nat → Nat → Option Nat
  | 0, _ => none
  | n + 1, i => if i < V.length then (if V.getD i 0 = 34 then some i else if V.getD i 0 = 92 then cloF V n (i + 2) else cloF V n (i + 1)) else none
/-- the next quotation mark -/
def clo (V : List Nat) : Option Nat := cloF V V.length 1
def unqF (V : List Nat) (t : Nat) : Nat → Nat → List Nat
  | 0, _ => []
  | n + 1, i => if i < t then (if V.getD i 0 = 92 then V.getD (i + 1) 0 :: unqF V t n (i + 2) else V.getD i 0 :: unqF V t n (i + 1)) else []
def unq (V : List Nat) : List Nat := if 0 < V.length ∧ V.getD 0 0 = 34 then (match clo V with | some t => unqF V t t 1 | none => V) else V
/-- the first ITEM, small -/
def itm (V : List Nat) : List Nat := (trim V 0 (fnd 59 V 0 V.length)).map low
def parF (V N : List Nat) : Nat → Nat → Option (List Nat)
  | 0, _ => none
  | n + 1, s => if s ≤ V.length then (if fnd 61 V s (fnd 59 V s V.length) < fnd 59 V s V.length ∧ nameEq V N s (fnd 61 V s (fnd 59 V s V.length)) = true then some (unq (trim V (fnd 61 V s (fnd 59 V s V.length) + 1) (fnd 59 V s V.length))) else parF V N n (fnd 59 V s V.length + 1)) else none
/-- the value of the PARAMETER of the name N -/
def par (V N : List Nat) : Option (List Nat) := parF V N (V.length + 1) (fnd 59 V 0 V.length + 1)
def tyF (V : List Nat) : Nat → Bool → Nat → Bool
  | 0, sl, _ => sl
  | n + 1, sl, i => if isBlk (V.getD i 0) = true then false else tyF V n (sl || (V.getD i 0 == 47 && decide (0 < i) && decide (i < V.length - 1))) (i + 1)
def isTy (V : List Nat) : Bool := tyF V V.length false 0
theorem tS_le {L : List Nat} {s e : Nat} : s ≤ tS L s e ∧ (s ≤ e → tS L s e ≤ e) := skip_le
theorem tE_le {L : List Nat} {s e : Nat} : tE L s e ≤ e ∧ (s ≤ e → tS L s e ≤ tE L s e) := ⟨(trR_le _ _ _).1, fun h => (trR_le _ _ _).2 (tS_le.2 h)⟩
theorem fndF_ge (w : Nat) (L : List Nat) (e : Nat) : ∀ n q i, i ≤ e + 1 → i ≤ fndF w L e n q i ∨ fndF w L e n q i = e := by
  intro n
  induction n with
  | zero => intro q i h; exact Or.inr rfl
  | succ n ih =>
    intro q i h
    simp only [fndF]
    by_cases hi : i < e
    · rw [if_pos hi]
      have h1 := fun q => ih q (i + 1) (by omega)
      have h2 := fun q => ih q (i + 2) (by omega)
      split
      · exact Or.inl (Nat.le_refl _)
      · split
        · rcases h1 (!q) with h | h <;> omega
        · split
          · rcases h2 q with h | h <;> omega
          · rcases h1 q with h | h <;> omega
    · rw [if_neg hi]; exact Or.inr rfl
theorem fnd_ge {w : Nat} {L : List Nat} {s e : Nat} (h : s ≤ e) : s ≤ fnd w L s e := by
  rcases fndF_ge w L e (e - s + 1) false s (by omega) with h1 | h1 <;> unfold fnd <;> omega
theorem trim_len {L : List Nat} {s e : Nat} (he : e ≤ L.length) : (trim L s e).length = tE L s e - tS L s e := sub_len (Nat.le_trans tE_le.1 he)
theorem low_lt {x : Nat} (h : x < 256) : low x < 256 := by unfold low; split <;> omega
section ZV2
variable {b f : xhp} {ad : Nat → Nat} {z : zS}
theorem m_hasName_aux (h : zMP b f ad z) {j i a : Nat} (hj : j < 20) (hi : i < 20) (hB : zB (z.1 j)) (hN : zB (z.1 i)) (ha : a < 2 ^ 29) {post : Int32 → xhp → Prop} : ∀ n k, k + n = (z.1 i).length → post (zb (hasNmF (z.1 j) (z.1 i) a n k)) f → w_Ro_hasName_2 post (n + 1) (ro ad j) (nI a) (ro ad i) (nI k) f := by
  have hl := h.len hi
  have hlj := h.len hj
  intro n
  induction n with
  | zero =>
    intro k hk hp
    exact ⟨_, h.sz hi, fun _ => ⟨Or.inr rfl, hp⟩, fun c => absurd (nI_le (by omega) (by omega)) c⟩
  | succ n ih =>
    intro k hk hp
    refine ⟨_, h.sz hi, fun c => ?_, fun c => ⟨h.rO hj, ?_⟩⟩
    · rw [nI_leI (by omega) (by omega)] at c; omega
    · rw [nI_add]
      refine m_get (h.row hj) ?_
      have hNk := hN k
      simp only [hasNmF] at hp
      by_cases hin : a + k < (z.1 j).length
      · rw [rget_nI hin (by omega)]
        have hBk := hB (a + k)
        refine m_small (by omega) ⟨h.rO hi, m_get (h.row hi) ?_⟩
        rw [rget_nI (by omega) (by omega)]
        refine m_small (by omega) ?_
        have l1 := low_lt hBk
        have l2 := low_lt hNk
        refine ⟨fun c2 => ?_, fun c2 => ?_⟩
        · rw [nI_eq (by omega) (by omega)] at c2
          rw [if_pos ⟨hin, c2⟩] at hp
          rw [nI_1]
          exact ih (k + 1) (by omega) hp
        · rw [nI_eq (by omega) (by omega)] at c2
          rw [if_neg (fun hh => c2 hh.2)] at hp
          exact ⟨Or.inl rfl, hp⟩
      · rw [rget_out (by omega) (by omega)]
        refine m_small_none ⟨h.rO hi, m_get (h.row hi) ?_⟩
        rw [rget_nI (by omega) (by omega)]
        refine m_small (by omega) ?_
        have l2 := low_lt hNk
        rw [if_neg (fun hh => hin hh.1)] at hp
        refine ⟨fun c2 => ?_, fun c2 => ⟨Or.inl rfl, hp⟩⟩
        have h1 := nI_toInt (n := low ((z.1 i).getD k 0)) (by omega)
        rw [← c2] at h1
        have : ((-1 : Int32)).toInt = -1 := by decide
        omega
theorem m_hasName (h : zMP b f ad z) {j i a : Nat} (hj : j < 20) (hi : i < 20) (hB : zB (z.1 j)) (hN : zB (z.1 i)) (ha : a < 2 ^ 29) {post : Int32 → xhp → Prop} (hp : post (zb (hasNm (z.1 j) (z.1 i) a)) f) : w_Ro_hasName post (ro ad j) (nI a) (ro ad i) f :=
  ⟨_, m_hasName_aux h hj hi hB hN ha (z.1 i).length 0 (by omega) hp⟩
theorem m_isNamed (h : zMP b f ad z) {i s e : Nat} (hi : i < 20) (hB : zB (z.1 3)) (hN : zB (z.1 i)) (hse : s ≤ e) (he : e ≤ (z.1 3).length) {post : Int32 → xhp → Prop} (hp : post (zb (nameEq (z.1 3) (z.1 i) s e)) f) : w_Va_isNamed post (zvl ad) (nI s) (nI e) (ro ad i) f := by
  have hl := h.len (j := 3) (by decide)
  have hli := h.len hi
  have h1 := tS_le (L := z.1 3) (s := s) (e := e)
  have h2 := tE_le (L := z.1 3) (s := s) (e := e)
  refine ⟨h.vO, m_behind h hB he (by omega) ⟨h.vO, m_ahead h hB he (by unfold tS at h1; omega) ⟨_, h.sz hi, ?_, ?_⟩⟩⟩
  · intro c
    change ¬ nI (tE (z.1 3) s e) - nI (tS (z.1 3) s e) = _ at c
    rw [pk_sub (h2.2 hse), nI_eq (by omega) (by omega)] at c
    simp only [nameEq, decide_eq_false c, Bool.false_and] at hp
    exact ⟨Or.inl rfl, hp⟩
  · intro c
    change nI (tE (z.1 3) s e) - nI (tS (z.1 3) s e) = _ at c
    rw [pk_sub (h2.2 hse), nI_eq (by omega) (by omega)] at c
    simp only [nameEq, decide_eq_true c, Bool.true_and] at hp
    refine ⟨_, h.vl, h.rO (by decide), m_hasName h (by decide) hi hB hN (by unfold tS at h1; omega) ⟨fun c2 => ?_, fun c2 => ?_⟩⟩
    · rw [zb_0] at c2
      change hasNm (z.1 3) (z.1 i) (tS (z.1 3) s e) = false at c2
      rw [c2] at hp; exact ⟨Or.inl rfl, hp⟩
    · rw [zb_0, Bool.not_eq_false] at c2
      change hasNm (z.1 3) (z.1 i) (tS (z.1 3) s e) = true at c2
      rw [c2] at hp; exact ⟨Or.inr rfl, hp⟩
/-- behind i steps of a move to the left by a -/
def mvL (V : List Nat) (a i : Nat) : List Nat := sub V a i ++ V.drop (i - a)
theorem mvL_len {V : List Nat} {a i : Nat} (h1 : a ≤ i) (h2 : i ≤ V.length) : (mvL V a i).length = V.length := by
  simp only [mvL, List.length_append, sub_len h2, List.length_drop]; omega
theorem mvL_get {V : List Nat} {a i k : Nat} (h1 : a ≤ i) (h2 : i ≤ V.length) : (mvL V a i).getD k 0 = if k < i - a then V.getD (a + k) 0 else V.getD k 0 := by
  rw [mvL, gd_app, sub_len h2]
  split
  · rw [sub_get h2 (by assumption)]
  · rw [gd_drop]; congr 1; omega
theorem mvL_step {V : List Nat} {a i : Nat} (h1 : a ≤ i) (h2 : i < V.length) : (mvL V a i).set (i - a) ((mvL V a i).getD i 0) = mvL V a (i + 1) := by
  have l1 := mvL_len h1 (Nat.le_of_lt h2)
  apply gd_ext
  · rw [List.length_set, l1, mvL_len (by omega) (by omega)]
  · intro k hk
    rw [gd_set (by omega), mvL_get h1 (by omega), mvL_get h1 (by omega), mvL_get (by omega) (by omega)]
    by_cases e : k = i - a
    · rw [if_pos e, if_neg (show ¬ i < i - a by omega), if_pos (show k < i + 1 - a by omega)]; congr 1; omega
    · rw [if_neg e]
      by_cases e2 : k < i - a
      · rw [if_pos e2, if_pos (show k < i + 1 - a by omega)]
      · rw [if_neg e2, if_neg (show ¬ k < i + 1 - a by omega)]
theorem mvL_take {V : List Nat} {a t : Nat} (h2 : t ≤ V.length) : (mvL V a t).take (t - a) = sub V a t := by
  rw [mvL, List.take_append_of_le_length (by rw [sub_len h2]; exact Nat.le_refl _), List.take_of_length_le (by rw [sub_len h2]; exact Nat.le_refl _)]
theorem m_keep_aux {V : List Nat} {a t : Nat} (hat : a ≤ t) (ht : t ≤ V.length) {post : xhp → Prop} : ∀ n i (z : zS) (f : xhp), zMP b f ad z → z.1 3 = mvL V a i → a ≤ i → i + n = t → (∀ f', zMP b f' ad (va_up z.1 3 (sub V a t), z.2) → post f') → w_Va_keep_18 post (n + 1) (zvl ad) (nI a) (nI t) (nI i) f := by
  intro n
  induction n with
  | zero =>
    intro i z f h hz hai hin hp
    have hl := h.len (j := 3) (by decide)
    have hlen : (z.1 3).length = V.length := by rw [hz]; exact mvL_len hai (by omega)
    have hit : i = t := by omega
    subst hit
    refine ⟨fun _ => ⟨_, h.vl, h.rO (by decide), ?_⟩, fun c => absurd (nI_le (Nat.le_refl _) (by omega)) c⟩
    rw [pk_sub hat]
    refine m_shorten (by decide) h (by omega) (fun f' hf => hp f' ?_)
    rw [hz, mvL_take ht] at hf; exact hf
  | succ n ih =>
    intro i z f h hz hai hin hp
    have hl := h.len (j := 3) (by decide)
    have hlen : (z.1 3).length = V.length := by rw [hz]; exact mvL_len hai (by omega)
    refine ⟨fun c => ?_, fun c => ⟨_, h.vl, _, h.vl, h.rO (by decide), m_get (h.row (by decide)) ⟨h.rO (by decide), ?_⟩⟩⟩
    · rw [nI_leI (by omega) (by omega)] at c; omega
    · rw [rget_nI (by omega) (by omega), pk_sub hai]
      refine m_set (by decide) h (by omega) (fun f' hf => ?_)
      rw [nI_1]
      refine ih (i + 1) _ f' hf ?_ (by omega) (by omega) (fun f'' hf2 => hp f'' ?_)
      · dsimp only; rw [zup_self, hz]; exact mvL_step hai (by omega)
      · dsimp only at hf2; rw [bx_uu] at hf2; exact hf2
theorem m_keep (h : zMP b f ad z) {s e : Nat} (hB : zB (z.1 3)) (hse : s ≤ e) (he : e ≤ (z.1 3).length) {post : xhp → Prop} (hp : ∀ f', zMP b f' ad (va_up z.1 3 (trim (z.1 3) s e), z.2) → post f') : w_Va_keep post (zvl ad) (nI s) (nI e) f := by
  have hl := h.len (j := 3) (by decide)
  have h1 := tS_le (L := z.1 3) (s := s) (e := e)
  have h2 := tE_le (L := z.1 3) (s := s) (e := e)
  refine ⟨h.vO, m_behind h hB he (by omega) ⟨h.vO, m_ahead h hB he (by unfold tS at h1; omega) ⟨tE (z.1 3) s e - tS (z.1 3) s e + 1, ?_⟩⟩⟩
  refine m_keep_aux (V := z.1 3) (a := tS (z.1 3) s e) (t := tE (z.1 3) s e) (h2.2 hse) (Nat.le_trans h2.1 he) (tE (z.1 3) s e - tS (z.1 3) s e) (tS (z.1 3) s e) z f h ?_ (Nat.le_refl _) (by omega) hp
  simp [mvL, sub]
end ZV2
