/-! The literals as bytes; Row's methods over them; MailParts: find, loadField, loadType and their like -/
/-- literal i -/
def xbN (i : Nat) : List Nat := (xbytS.getD i []).map (fun x => x.toNatClampNeg)
theorem xbN_all : ∀ i, i < 17 → xlenS.getD i 0 = (xbN i).length ∧ (xbN i).length < 30 ∧ ∀ j, j < (xbN i).length → (xbytS.getD i []).getD j 0 = nI ((xbN i).getD j 0) := by decide +kernel
theorem xbN_B : ∀ i, i < 17 → ∀ x ∈ xbN i, x < 256 := by decide +kernel
theorem zB_of {L : List Nat} (h : ∀ x ∈ L, x < 256) : zB L := by
  intro i
  by_cases hi : i < L.length
  · have e : L.getD i 0 = L[i] := by simp [List.getD, hi]
    rw [e]; exact h _ (List.getElem_mem hi)
  · simp [List.getD, List.getElem?_eq_none (Nat.le_of_not_lt hi)]
theorem xbN_zB {i : Nat} (hi : i < 17) : zB (xbN i) := zB_of (xbN_B i hi)
def pfx (L P : List Nat) : Bool := decide (P.length ≤ L.length) && eqF L P 0 P.length 0
def isW (L P : List Nat) : Bool := decide (L.length = P.length) && eqF L P 0 P.length 0
section ZP
variable {b f : xhp} {ad sk : Nat → Nat} {z : zS}
theorem m_begins_aux (h : zMP b f ad z) {i j : Nat} (hi : i < 17) (hj : j < 20) (hB : zB (z.1 j)) (hle : (xbN i).length ≤ (z.1 j).length) {post : Int32 → xhp → Prop} : ∀ n k, k + n = (xbN i).length → post (zb (eqF (z.1 j) (xbN i) 0 n k)) f → w_Ro_begins_15 sk post (n + 1) (ro ad j) (sk i) (nI k) f := by
  obtain ⟨a1, a2, a3⟩ := xbN_all i hi
  have hlen := h.len hj
  intro n
  induction n with
  | zero =>
    intro k hk hp
    refine ⟨i, hi, rfl, fun _ => ⟨Or.inr rfl, hp⟩, fun c => absurd ?_ c⟩
    rw [a1]; exact nI_le (by omega) (by omega)
  | succ n ih =>
    intro k hk hp
    refine ⟨i, hi, rfl, fun c => ?_, fun c => ⟨h.rO hj, m_get (h.row hj) ⟨i, hi, rfl, k, by omega, rfl, ?_⟩⟩⟩
    · rw [a1, nI_leI (by omega) (by omega)] at c; omega
    · rw [rget_nI (by omega) (by omega), a3 k (by omega)]
      have h1 := hB k
      have h2 := xbN_zB hi k
      refine ⟨fun c1 => ?_, fun c1 => ?_⟩
      · rw [nI_eq (by omega) (by omega)] at c1
        rw [show eqF (z.1 j) (xbN i) 0 (n + 1) k = eqF (z.1 j) (xbN i) 0 n (k + 1) from if_pos (by rw [Nat.zero_add]; exact c1)] at hp
        rw [nI_1]; exact ih (k + 1) (by omega) hp
      · rw [nI_eq (by omega) (by omega)] at c1
        rw [show eqF (z.1 j) (xbN i) 0 (n + 1) k = false from if_neg (by rw [Nat.zero_add]; exact c1)] at hp
        exact ⟨Or.inl rfl, hp⟩
theorem m_begins (h : zMP b f ad z) {i j : Nat} (hi : i < 17) (hj : j < 20) (hB : zB (z.1 j)) {post : Int32 → xhp → Prop} (hp : post (zb (pfx (z.1 j) (xbN i))) f) : w_Ro_begins sk post (ro ad j) (sk i) f := by
  obtain ⟨a1, a2, a3⟩ := xbN_all i hi
  have hlen := h.len hj
  refine ⟨_, h.sz hj, i, hi, rfl, fun c => ?_, fun c => ?_⟩
  · rw [a1, nI_leI (by omega) (by omega)] at c
    rw [pfx, decide_eq_true c, Bool.true_and] at hp
    exact ⟨_, m_begins_aux h hi hj hB c (xbN i).length 0 (by omega) hp⟩
  · rw [a1, nI_leI (by omega) (by omega)] at c
    rw [pfx, decide_eq_false c, Bool.false_and] at hp
    exact ⟨Or.inl rfl, hp⟩
theorem m_is (h : zMP b f ad z) {i j : Nat} (hi : i < 17) (hj : j < 20) (hB : zB (z.1 j)) {post : Int32 → xhp → Prop} (hp : post (zb (isW (z.1 j) (xbN i))) f) : w_Ro_is sk post (ro ad j) (sk i) f := by
  obtain ⟨a1, a2, a3⟩ := xbN_all i hi
  have hlen := h.len hj
  refine ⟨_, h.sz hj, i, hi, rfl, fun c => ?_, fun c => ⟨h.rO hj, m_begins h hi hj hB ?_⟩⟩
  · rw [a1, nI_eq (by omega) (by omega)] at c
    rw [isW, decide_eq_false c, Bool.false_and] at hp
    exact ⟨Or.inl rfl, hp⟩
  · rw [a1, nI_eq (by omega) (by omega)] at c
    rw [isW, decide_eq_true c, Bool.true_and] at hp
    have e1 : pfx (z.1 j) (xbN i) = eqF (z.1 j) (xbN i) 0 (xbN i).length 0 := by rw [pfx, decide_eq_true (by omega), Bool.true_and]
    rw [e1]
    refine ⟨fun c1 => ?_, fun c1 => ?_⟩
    · rw [zb_0] at c1; rw [c1] at hp; exact ⟨Or.inl rfl, hp⟩
    · rw [zb_0, Bool.not_eq_false] at c1; rw [c1] at hp; exact ⟨Or.inr rfl, hp⟩
theorem m_put_aux {i j : Nat} (hi : i < 17) (hj : j < 20) (hc : (xbN i).length ≤ zcap j) {post : xhp → Prop} : ∀ n k (z : zS) (f : xhp), zMP b f ad z → z.1 j = (xbN i).take k → k + n = (xbN i).length → (∀ f', zMP b f' ad (va_up z.1 j (xbN i), z.2) → post f') → w_Ro_put_6 sk post (n + 1) (ro ad j) (sk i) (nI k) f := by
  obtain ⟨a1, a2, a3⟩ := xbN_all i hi
  intro n
  induction n with
  | zero =>
    intro k z f h hz hk hp
    refine ⟨i, hi, rfl, fun _ => hp f (h.id j ?_), fun c => absurd ?_ c⟩
    · rw [hz, List.take_of_length_le (by omega)]
    · rw [a1]; exact nI_le (by omega) (by omega)
  | succ n ih =>
    intro k z f h hz hk hp
    refine ⟨i, hi, rfl, fun c => ?_, fun c => ⟨i, hi, rfl, k, by omega, rfl, h.rO hj, ?_⟩⟩
    · rw [a1, nI_leI (by omega) (by omega)] at c; omega
    · rw [a3 k (by omega)]
      refine m_add hj h (by rw [hz, List.length_take]; omega) (fun f1 h1 => ?_)
      rw [nI_1]
      refine ih (k + 1) _ f1 h1 ?_ (by omega) (fun f2 h2 => hp f2 ?_)
      · dsimp only
        rw [zup_self, hz]
        have hkl : k < (xbN i).length := by omega
        rw [List.take_succ]
        simp [hkl]
      · dsimp only at h2; rw [bx_uu] at h2; exact h2
theorem m_put (h : zMP b f ad z) {i j : Nat} (hi : i < 17) (hj : j < 20) (hc : (xbN i).length ≤ zcap j) {post : xhp → Prop} (hp : ∀ f', zMP b f' ad (va_up z.1 j (xbN i), z.2) → post f') : w_Ro_put sk post (ro ad j) (sk i) f := by
  refine ⟨h.rO hj, m_clear hj h (fun f1 h1 => ⟨_, m_put_aux hi hj hc (xbN i).length 0 _ f1 h1 (by dsimp only; rw [zup_self]; simp) (by omega) (fun f2 h2 => hp f2 ?_)⟩)⟩
  dsimp only at h2; rw [bx_uu] at h2; exact h2
/-- which ENTITY -/
def zfind (made : Nat) (k : Int32) : Option Nat := if k < 0 then none else if k.toNatClampNeg < made then some k.toNatClampNeg else none
theorem zfind_nI {made i : Nat} (h : i < made) (hm : made ≤ 60) : zfind made (nI i) = some i := by
  rw [zfind, if_neg (nI_pos (by omega)), nI_clamp (by omega), if_pos h]
theorem zfind_m1 {made : Nat} : zfind made (-1) = none := rfl
theorem zfind_lt {made i : Nat} {k : Int32} (h : zfind made k = some i) : i < made := by
  unfold zfind at h
  split at h
  · cases h
  · split at h
    · cases h; assumption
    · cases h
theorem zMP.O0 (h : zMP b f ad z) : xO f (ad 0) 4 := ⟨_, h.2.2.1⟩
theorem zMP.en (h : zMP b f ad z) {i : Nat} (hi : i < 60) : f (zen ad i) = some (.inr (0, zent (z.2.1 i))) := h.2.2.2.2.2.2.2.2 i hi
theorem m_findE (h : zMP b f ad z) (hm : z.2.2.2.1 ≤ 60) {k : Int32} {post : Option Nat → xhp → Prop} (hp : post ((zfind z.2.2.2.1 k).map (zen ad)) f) : w_Mp_find post (ad 0) k f := by
  obtain ⟨-, -, h0, -, -, -, ⟨ge, he, hge⟩, -⟩ := h
  refine ⟨fun c => ?_, fun c => ⟨_, ⟨_, h0, rfl⟩, fun c2 => ?_, fun c2 => ⟨_, ⟨_, h0, rfl⟩, _, _, _, he, by decide, fun c3 => ?_, fun c3 => ⟨_, ⟨_, h0, rfl⟩, 2, 0, _, _, he, Or.inr ⟨rfl, rfl⟩, ?_, fun r er => ?_⟩⟩⟩⟩
  · rw [zfind, if_pos c] at hp; exact hp
  · obtain ⟨i, hi, rfl⟩ := nI_of c
    rw [nI_leI (by omega) hi] at c2
    rw [zfind, if_neg c, nI_clamp hi, if_neg (by omega)] at hp; exact hp
  · obtain ⟨i, hi, rfl⟩ := nI_of c
    rw [nI_leI (by omega) hi] at c2 c3
    omega
  · obtain ⟨i, hi, rfl⟩ := nI_of c
    rw [nI_leI (by omega) hi] at c3
    exact vp_in_nI (by omega) (by omega)
  · obtain ⟨i, hi, rfl⟩ := nI_of c
    rw [nI_leI (by omega) hi] at c2
    rw [zfind, if_neg c, nI_clamp hi, if_pos (by omega)] at hp
    rw [er, nI_clamp hi, hge i (by omega)]; exact hp
/-- a FIELD's VALUE -/
def fieldV (M : List Nat) (K : List (Nat × Nat)) (N : List Nat) (from_ hd_ : Nat) : Option (List Nat) := (fl M K N from_ hd_).map (fun l => valL M K l (lf M K l + N.length) hd_)
theorem flF_spec {M : List Nat} {K : List (Nat × Nat)} {N : List Nat} {to_ : Nat} : ∀ n l t, flF M K N to_ n l = some t → l ≤ t ∧ t < to_ ∧ colL M K t = some (lf M K t + N.length) ∧ hasNm M N (lf M K t) = true := by
  intro n
  induction n with
  | zero => intro l t h; simp [flF] at h
  | succ n ih =>
    intro l t h
    simp only [flF] at h
    split at h
    · split at h
      · cases h; rename_i h1 h2; exact ⟨Nat.le_refl _, h1, h2.1, h2.2⟩
      · have := ih _ _ h; exact ⟨by omega, this.2⟩
    · cases h
theorem zB.valL {M : List Nat} {K : List (Nat × Nat)} (h : zB M) (l c t : Nat) : zB (valL M K l c t) := (h.sub _ _).app (h.vcF _ _)
theorem zB.fieldV {M : List Nat} {K : List (Nat × Nat)} (h : zB M) (N : List Nat) (a c : Nat) : zB ((fieldV M K N a c).getD []) := by
  unfold Jvm.Pilot.CMailPartsLaw_law_r4041_3cd308.fieldV
  cases fl M K N a c with
  | none => exact zB.nil
  | some l => exact h.valL _ _ _
theorem m_loadField (h : zMP b f ad z) (hB : zB (z.1 2)) (hL : zL (z.1 2) z.2.2.1) {i r from_ hd_ : Nat} (hi : i < 60) (hr : r < 20) (hr3 : r ≠ 3) (hN : zB (z.1 r)) (hf : from_ < 2 ^ 29) (hh : hd_ < 2 ^ 29) (e4 : z.2.1 i 4 = nI from_) (e5 : z.2.1 i 5 = nI hd_) {post : Int32 → xhp → Prop} (hp : ∀ f', zMP b f' ad (va_up z.1 3 ((fieldV (z.1 2) z.2.2.1 (z.1 r) from_ hd_).getD []), z.2) → post (zb (fieldV (z.1 2) z.2.2.1 (z.1 r) from_ hd_).isSome) f') : w_Mp_loadField post (ad 0) (zen ad i) (ro ad r) f := by
  refine ⟨_, ⟨_, h.2.2.1, rfl⟩, _, ⟨_, h.en hi, rfl⟩, _, ⟨_, h.en hi, rfl⟩, h.mO, ?_⟩
  rw [e4, e5]
  refine m_fieldLine h hB hL hr hN (by omega) (by omega) ⟨_, ⟨_, h.2.2.1, rfl⟩, _, h.vl, h.rO (by decide), m_clear (by decide) h (fun f1 h1 => ?_)⟩
  have e2 : (va_up z.1 3 []) 2 = z.1 2 := zup_ne _ _ (by decide)
  unfold fieldV at hp
  cases hfl : fl (z.1 2) z.2.2.1 (z.1 r) from_ hd_ with
  | none =>
    rw [hfl] at hp
    exact ⟨fun c => absurd rfl c, fun _ => ⟨Or.inl rfl, hp f1 h1⟩⟩
  | some l =>
    rw [hfl] at hp
    have hs := flF_spec _ _ _ hfl
    have hne : ¬ oI (some l) = -1 := fun e => by
      have := (oI_none (o := some l) (fun t ht => by cases ht; omega)).mp e
      cases this
    refine ⟨fun _ => ⟨_, ⟨_, h1.2.2.1, rfl⟩, _, ⟨_, h1.en hi, rfl⟩, _, ⟨_, h1.2.2.1, rfl⟩, _, h1.vl, h1.mO, ?_⟩, fun c => absurd c hne⟩
    dsimp only
    rw [e5]
    refine m_copyValue h1 (j := 3) (by decide) (by decide) rfl (by dsimp only; rw [e2]; exact hB) (by dsimp only; rw [e2]; exact hL) (by omega) (by omega) (c := lf (z.1 2) z.2.2.1 l + (z.1 r).length) (by dsimp only; rw [e2]; exact hs.2.2.1) (fun f2 h2 => ⟨Or.inr rfl, hp f2 ?_⟩)
    dsimp only at h2
    rw [e2, bx_uu] at h2
    exact h2
end ZP
