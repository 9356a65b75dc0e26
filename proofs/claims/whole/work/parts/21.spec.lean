/-! THE MEANING, over lists of bytes (numbers 0 .. 255) -/
def isBlk (b : Nat) : Bool := b == 32 || b == 9
def isNm (b : Nat) : Bool := decide (97 ≤ b ∧ b ≤ 122) || decide (65 ≤ b ∧ b ≤ 90) || decide (48 ≤ b ∧ b ≤ 57) || b == 45
def low (b : Nat) : Nat := if 65 ≤ b ∧ b ≤ 90 then b + 32 else b
/-- the part of a list from s on, up to e -/
def sub (L : List Nat) (s e : Nat) : List Nat := (L.drop s).take (e - s)
/-- from i on the first place below e where P doesn't hold; else e -/
def skp (P : Nat → Bool) (L : List Nat) (e : Nat) : Nat → Nat → Nat
  | 0, i => i
  | n + 1, i => if i < e then (if P (L.getD i 0) = true then skp P L e n (i + 1) else i) else i
def skip (P : Nat → Bool) (L : List Nat) (i e : Nat) : Nat := skp P L e (e - i) i
/-- the end without blanks -/
def trR (L : List Nat) (s : Nat) : Nat → Nat
  | 0 => 0
  | e + 1 => if s < e + 1 ∧ isBlk (L.getD e 0) = true then trR L s e else e + 1
/-- where w stands first from i on, outside of quotation marks; else e -/
def fndF (w : Nat) (L : List Nat) (e : Nat) : Nat → Bool → Nat → Nat
  | 0, _, _ => e
  | n + 1, q, i => if i < e then (if L.getD i 0 = w ∧ q = false then i else if L.getD i 0 = 34 then fndF w L e n (!q) (i + 1) else if L.getD i 0 = 92 ∧ q = true then fndF w L e n q (i + 2) else fndF w L e n q (i + 1)) else e
def fnd (w : Nat) (L : List Nat) (s e : Nat) : Nat := fndF w L e (e - s + 1) false s
theorem skp_le (P : Nat → Bool) (L : List Nat) (e : Nat) : ∀ n i, i ≤ skp P L e n i ∧ (i ≤ e → skp P L e n i ≤ e) := by
  intro n
  induction n with
  | zero => intro i; exact ⟨Nat.le_refl _, fun h => h⟩
  | succ n ih =>
    intro i
    simp only [skp]
    split
    · split
      · have := ih (i + 1); omega
      · omega
    · omega
theorem skip_le {P : Nat → Bool} {L : List Nat} {i e : Nat} : i ≤ skip P L i e ∧ (i ≤ e → skip P L i e ≤ e) := skp_le P L e _ i
theorem fndF_le (w : Nat) (L : List Nat) (e : Nat) : ∀ n q i, fndF w L e n q i ≤ e := by
  intro n
  induction n with
  | zero => intro q i; exact Nat.le_refl _
  | succ n ih =>
    intro q i
    simp only [fndF]
    repeat' split
    all_goals first | exact ih _ _ | omega
theorem fnd_le {w : Nat} {L : List Nat} {s e : Nat} : fnd w L s e ≤ e := fndF_le w L e _ _ _
theorem trR_le (L : List Nat) (s : Nat) : ∀ e, trR L s e ≤ e ∧ (s ≤ e → s ≤ trR L s e) := by
  intro e
  induction e with
  | zero => simp [trR]
  | succ e ih => simp only [trR]; split <;> omega
theorem sub_len {L : List Nat} {s e : Nat} (h : e ≤ L.length) : (sub L s e).length = e - s := by
  simp only [sub, List.length_take, List.length_drop]; omega
theorem sub_get {L : List Nat} {s e i : Nat} (h : e ≤ L.length) (hi : i < e - s) : (sub L s e).getD i 0 = L.getD (s + i) 0 := by
  simp only [sub, List.getD_eq_getElem?_getD]
  rw [List.getElem?_take_of_lt hi, List.getElem?_drop]
/-! The rest of Row's methods -/
section ZR2
variable {b f : xhp} {ad : Nat → Nat} {z : zS}
theorem zup_id (r : Nat → List Nat) (j : Nat) : va_up r j (r j) = r := by
  funext k
  by_cases e : k = j
  · subst e; exact zup_self _ _ _
  · exact zup_ne _ _ e
theorem zMP.id (h : zMP b f ad z) (j : Nat) {L : List Nat} (hL : L = z.1 j) : zMP b f ad (va_up z.1 j L, z.2) := by rw [hL, zup_id]; exact h
theorem m_addRange_aux {i j e : Nat} (hi : i < 20) (hj : j < 20) (hij : i ≠ j) {post : xhp → Prop} : ∀ (n a : Nat) (z : zS) (f : xhp), zMP b f ad z → a + n = e → e ≤ (z.1 i).length → (z.1 j).length + n ≤ zcap j → (∀ f', zMP b f' ad (va_up z.1 j (z.1 j ++ sub (z.1 i) a e), z.2) → post f') → w_Ro_addRange_3 post (n + 1) (ro ad j) (ro ad i) (nI e) (nI a) f := by
  intro n
  induction n with
  | zero =>
    intro a z f h h1 h2 h3 hp
    have : a = e := by omega
    subst this
    refine ⟨fun _ => hp f (h.id j ?_), fun c => absurd (nI_le (Nat.le_refl _) ?_) c⟩
    · simp [sub]
    · have := (h.2.2.2.1 i hi).1; have := zcap_le i; omega
  | succ n ih =>
    intro a z f h h1 h2 h3 hp
    have hle := (h.2.2.2.1 i hi).1
    have hcap := zcap_le i
    refine ⟨fun c => ?_, fun c => ⟨(h.2.2.2.1 i hi).O, m_get (h.2.2.2.1 i hi) ⟨(h.2.2.2.1 j hj).O, ?_⟩⟩⟩
    · rw [nI_leI (by omega) (by omega)] at c; omega
    · rw [rget_nI (by omega) (by omega)]
      refine m_add hj h (by omega) (fun f1 h1' => ?_)
      rw [nI_1]
      have e1 : (va_up z.1 j (z.1 j ++ [(z.1 i).getD a 0])) i = z.1 i := zup_ne _ _ hij
      refine ih (a + 1) (va_up z.1 j (z.1 j ++ [(z.1 i).getD a 0]), z.2) f1 h1' (by omega) (by dsimp only; rw [e1]; exact h2) (by dsimp only; rw [zup_self]; simp; omega) (fun f' hf => hp f' ?_)
      simp only [zup_self, e1, bx_uu] at hf
      have e2 : z.1 j ++ [(z.1 i).getD a 0] ++ sub (z.1 i) (a + 1) e = z.1 j ++ sub (z.1 i) a e := by
        rw [List.append_assoc]
        congr 1
        have ha : a < (z.1 i).length := by omega
        simp only [sub]
        rw [show e - a = (e - (a + 1)) + 1 by omega, List.drop_eq_getElem_cons ha, List.take_succ_cons]
        simp [List.getD, ha]
      rw [e2] at hf
      exact hf
/-- addRange(other, a, e): what stands there comes to the row -/
theorem m_addRange {i j a e : Nat} (hi : i < 20) (hj : j < 20) (hij : i ≠ j) (h : zMP b f ad z) (hae : a ≤ e) (he : e ≤ (z.1 i).length) (hc : (z.1 j).length + (e - a) ≤ zcap j) {post : xhp → Prop} (hp : ∀ f', zMP b f' ad (va_up z.1 j (z.1 j ++ sub (z.1 i) a e), z.2) → post f') : w_Ro_addRange post (ro ad j) (ro ad i) (nI a) (nI e) f :=
  ⟨_, m_addRange_aux hi hj hij (e - a) a z f h (by omega) he hc hp⟩
theorem m_small {x : Nat} (hx : x < 2 ^ 30) {post : Int32 → xhp → Prop} (hp : post (nI (low x)) f) : w_Mp_small post (nI x) f := by
  unfold low at hp
  have e65 : (65 : Int32) = nI 65 := by decide
  have e90 : (90 : Int32) = nI 90 := by decide
  have e32 : (32 : Int32) = nI 32 := by decide
  unfold w_Mp_small w_Mp_small_19 w_Mp_small_20
  rw [e65, e90, e32]
  refine ⟨fun c => ?_, fun c => ⟨fun c2 => ?_, fun c2 => ?_⟩⟩
  · rw [nI_ltI (by omega) (by omega)] at c
    rw [if_neg (by omega)] at hp; exact hp
  · rw [nI_ltI (by omega) (by omega)] at c c2
    rw [if_neg (by omega)] at hp; exact hp
  · rw [nI_ltI (by omega) (by omega)] at c c2
    rw [if_pos (by omega)] at hp
    rw [nI_add]; exact hp
theorem m_small_none {post : Int32 → xhp → Prop} (hp : post (-1) f) : w_Mp_small post (-1) f := ⟨fun _ => hp, fun c => absurd (by decide) c⟩
theorem m_blank {x : Nat} (hx : x < 2 ^ 30) {post : Int32 → xhp → Prop} (hp : post (if isBlk x = true then 1 else 0) f) : w_Mp_isBlank post (nI x) f := by
  have e32 : (32 : Int32) = nI 32 := by decide
  have e9 : (9 : Int32) = nI 9 := by decide
  unfold w_Mp_isBlank w_Mp_isBlank_12 w_Mp_isBlank_17
  rw [e32, e9]
  have z1 : xz 1 := Or.inr rfl
  have z0 : xz 0 := Or.inl rfl
  refine ⟨fun c => ?_, fun c => ⟨fun c2 => ?_, fun c2 => ?_⟩⟩
  · rw [nI_eq (by omega) (by omega)] at c
    rw [if_pos (by simp [isBlk, c])] at hp; exact ⟨z1, hp⟩
  · rw [nI_eq (by omega) (by omega)] at c c2
    rw [if_neg (by simp [isBlk, c, c2])] at hp; exact ⟨z0, hp⟩
  · rw [nI_eq (by omega) (by omega)] at c c2
    rw [if_pos (by simp [isBlk, c2])] at hp; exact ⟨z1, hp⟩
theorem m_blank_none {post : Int32 → xhp → Prop} (hp : post 0 f) : w_Mp_isBlank post (-1) f := ⟨fun c => absurd c (by decide), fun _ => ⟨fun _ => ⟨Or.inl rfl, hp⟩, fun c => absurd c (by decide)⟩⟩
theorem m_nameByte {x : Nat} (hx : x < 2 ^ 30) {post : Int32 → xhp → Prop} (hp : post (if isNm x = true then 1 else 0) f) : w_Mp_isNameByte post (nI x) f := by
  have a1 : nI x < (97 : Int32) ↔ x < 97 := nI_ltI (b := 97) (by omega) (by omega)
  have a2 : (122 : Int32) < nI x ↔ 122 < x := nI_ltI (a := 122) (by omega) (by omega)
  have a3 : nI x < (65 : Int32) ↔ x < 65 := nI_ltI (b := 65) (by omega) (by omega)
  have a4 : (90 : Int32) < nI x ↔ 90 < x := nI_ltI (a := 90) (by omega) (by omega)
  have a5 : nI x < (48 : Int32) ↔ x < 48 := nI_ltI (b := 48) (by omega) (by omega)
  have a6 : (57 : Int32) < nI x ↔ 57 < x := nI_ltI (a := 57) (by omega) (by omega)
  have a7 : nI x = (45 : Int32) ↔ x = 45 := nI_eq (b := 45) (by omega) (by omega)
  have a8 : nI x ≤ (57 : Int32) ↔ x ≤ 57 := nI_leI (b := 57) (by omega) (by omega)
  have a9 : nI x ≤ (90 : Int32) ↔ x ≤ 90 := nI_leI (b := 90) (by omega) (by omega)
  have a10 : nI x ≤ (122 : Int32) ↔ x ≤ 122 := nI_leI (b := 122) (by omega) (by omega)
  have z1 : xz 1 := Or.inr rfl
  have z0 : xz 0 := Or.inl rfl
  unfold w_Mp_isNameByte
  simp only [w_Mp_isNameByte_12, w_Mp_isNameByte_24, w_Mp_isNameByte_36, w_Mp_isNameByte_42, w_Mp_isNameByte_47, a1, a2, a3, a4, a5, a6, a7, a8, a9, a10]
  simp only [isNm, Bool.or_eq_true, decide_eq_true_eq, beq_iff_eq] at hp
  clear a1 a2 a3 a4 a5 a6 a7 a8 a9 a10
  have b1 : ∀ k, x ≤ k ↔ ¬ k < x := fun k => Nat.not_lt.symm
  simp only [b1]
  clear b1
  by_cases h1 : x < 97 <;> by_cases h2 : 122 < x <;> by_cases h3 : x < 65 <;> by_cases h4 : 90 < x <;> by_cases h5 : x < 48 <;> by_cases h6 : 57 < x <;> by_cases h7 : x = 45 <;> first | (exfalso; omega) | (rw [if_pos (by omega)] at hp; simp [*]; done) | (rw [if_neg (by omega)] at hp; simp [*]; done)
end ZR2
