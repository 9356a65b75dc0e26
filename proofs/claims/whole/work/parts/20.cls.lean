/-! THE CLASS's STATE. Rows by numbers: 0 ready, 1 tape, 2 mail's bytes, 3 value's bytes, 4 .. 9 the six names, 10 textLeaves, 11 hangingLeaves, 12 .. 19 boundaries. -/
/-- rows, entities' fields, lines, made, lost -/
abbrev zS : Type := (Nat → List Nat) × (Nat → Nat → Int32) × List (Nat × Nat) × Nat × Nat
def ro (ad : Nat → Nat) (j : Nat) : Nat := ad (2 * j + 1)
def ra (ad : Nat → Nat) (j : Nat) : Nat := ad (2 * j + 2)
def zml (ad : Nat → Nat) : Nat := ad 41
def zst (ad : Nat → Nat) : Nat := ad 42
def zsp (ad : Nat → Nat) : Nat := ad 43
def zvl (ad : Nat → Nat) : Nat := ad 44
def zea (ad : Nat → Nat) : Nat := ad 45
def zba (ad : Nat → Nat) : Nat := ad 46
def zen (ad : Nat → Nat) (i : Nat) : Nat := ad (47 + i)
def zcap (j : Nat) : Nat := [20, 1500, 1500, 1500, 12, 25, 19, 8, 8, 4, 60, 60].getD j 70
def zmain (ad : Nat → Nat) (made lost : Nat) : List Value := [.ref (ro ad 0), .ref (ro ad 1), .ref (zml ad), .ref (zvl ad), .ref (ro ad 4), .ref (ro ad 5), .ref (ro ad 6), .ref (ro ad 7), .ref (ro ad 8), .ref (ro ad 9), .ref (zea ad), .ref (zba ad), .ref (ro ad 10), .ref (ro ad 11), .int (nI made), .int (nI lost)]
def zent (v : Nat → Int32) : List Value := [.int (v 0), .int (v 1), .int (v 2), .int (v 3), .int (v 4), .int (v 5), .int (v 6), .int (v 7), .int (v 8), .int (v 9), .int (v 10), .int (v 11), .int (v 12), .int (v 13), .int (v 14), .int (v 15), .int (v 16)]
def zinj (ad : Nat → Nat) (N : Nat) : Prop := ∀ i j, i < N → j < N → ad i = ad j → i = j
/-- row j's two cells hold the list L -/
def zrow (f : xhp) (ad : Nat → Nat) (j : Nat) (L : List Nat) : Prop := L.length ≤ zcap j ∧ f (ro ad j) = some (.inr (2, [.ref (ra ad j), .int (nI L.length)])) ∧ ∃ g : Nat → Int32, f (ra ad j) = some (.inl (0, zcap j, xbI g)) ∧ ∀ i, i < L.length → g i = nI (L.getD i 0)
def zlin (f : xhp) (ad : Nat → Nat) (ls : List (Nat × Nat)) : Prop := ls.length ≤ 1500 ∧ f (zml ad) = some (.inr (1, [.ref (ro ad 2), .ref (zst ad), .ref (zsp ad), .int (nI ls.length)])) ∧ ∃ st sp : Nat → Int32, f (zst ad) = some (.inl (0, 1500, xbI st)) ∧ f (zsp ad) = some (.inl (0, 1500, xbI sp)) ∧ ∀ i, i < ls.length → st i = nI (ls.getD i (0, 0)).1 ∧ sp i = nI (ls.getD i (0, 0)).2
/-- an array of references: its first n places -/
def zcR (o : Option xE) (t n : Nat) (F : Nat → Option Nat) : Prop := ∃ g : Nat → Option Nat, o = some (.inl (t, n, xbR g)) ∧ ∀ i, i < n → g i = F i
/-- the class's whole state; what isn't its own is as in b -/
def zMP (b f : xhp) (ad : Nat → Nat) (z : zS) : Prop :=
  zinj ad 107 ∧ (∀ a, (∀ k, k < 107 → a ≠ ad k) → f a = b a) ∧ f (ad 0) = some (.inr (4, zmain ad z.2.2.2.1 z.2.2.2.2)) ∧ (∀ j, j < 20 → zrow f ad j (z.1 j)) ∧ zlin f ad z.2.2.1 ∧ f (zvl ad) = some (.inr (3, [.ref (ro ad 3)])) ∧ zcR (f (zea ad)) 2 60 (fun i => some (zen ad i)) ∧ zcR (f (zba ad)) 1 8 (fun i => some (ro ad (12 + i))) ∧ ∀ i, i < 60 → f (zen ad i) = some (.inr (0, zent (z.2.1 i)))
theorem zup_self {α : Type} (f : Nat → α) (k : Nat) (v : α) : va_up f k v k = v := if_pos rfl
theorem zup_ne {α : Type} (f : Nat → α) {k j : Nat} (v : α) (h : j ≠ k) : va_up f k v j = f j := if_neg h
theorem zcap_le (j : Nat) : zcap j ≤ 1500 := by
  unfold zcap
  match j with
  | 0 | 1 | 2 | 3 | 4 | 5 | 6 | 7 | 8 | 9 | 10 | 11 => decide
  | n + 12 => simp
section ZU
variable {b f : xhp} {ad : Nat → Nat} {z : zS}
theorem zinj.ne (h : zinj ad 107) {i j : Nat} (hi : i < 107) (hj : j < 107) (hn : i ≠ j) : ad i ≠ ad j := fun e => hn (h i j hi hj e)
/-- row j gets another list -/
theorem zMP.setRow (h : zMP b f ad z) {j : Nat} (hj : j < 20) {L : List Nat} {g : Nat → Int32} (hL : L.length ≤ zcap j) (hg : ∀ i, i < L.length → g i = nI (L.getD i 0)) {f' : xhp} (e1 : f' (ro ad j) = some (.inr (2, [.ref (ra ad j), .int (nI L.length)]))) (e2 : f' (ra ad j) = some (.inl (0, zcap j, xbI g))) (e3 : ∀ a, a ≠ ro ad j → a ≠ ra ad j → f' a = f a) : zMP b f' ad (va_up z.1 j L, z.2) := by
  obtain ⟨hi, hb, h0, hr, hl, hv, he, hba, hen⟩ := h
  have k0 : ∀ k, k < 107 → k ≠ 2 * j + 1 → k ≠ 2 * j + 2 → f' (ad k) = f (ad k) := fun k hk n1 n2 => e3 _ (hi.ne hk (by omega) n1) (hi.ne hk (by omega) n2)
  refine ⟨hi, fun a ha => ?_, ?_, fun j' hj' => ?_, ?_, ?_, ?_, ?_, fun i hi60 => ?_⟩
  · rw [e3 a (ha _ (by omega)) (ha _ (by omega))]; exact hb a ha
  · rw [k0 0 (by omega) (by omega) (by omega)]; exact h0
  · by_cases e : j' = j
    · subst e
      simp only [zup_self]
      exact ⟨hL, e1, g, e2, hg⟩
    · simp only [zup_ne _ _ e]
      obtain ⟨r1, r2, g', r3, r4⟩ := hr j' hj'
      exact ⟨r1, by unfold ro; rw [k0 _ (by omega) (by omega) (by omega)]; exact r2, g', by unfold ra; rw [k0 _ (by omega) (by omega) (by omega)]; exact r3, r4⟩
  · obtain ⟨l1, l2, st, sp, l3, l4, l5⟩ := hl
    exact ⟨l1, by unfold zml; rw [k0 _ (by omega) (by omega) (by omega)]; exact l2, st, sp, by unfold zst; rw [k0 _ (by omega) (by omega) (by omega)]; exact l3, by unfold zsp; rw [k0 _ (by omega) (by omega) (by omega)]; exact l4, l5⟩
  · unfold zvl; rw [k0 _ (by omega) (by omega) (by omega)]; exact hv
  · unfold zea; rw [k0 _ (by omega) (by omega) (by omega)]; exact he
  · unfold zba; rw [k0 _ (by omega) (by omega) (by omega)]; exact hba
  · unfold zen; rw [k0 _ (by omega) (by omega) (by omega)]; exact hen i hi60
/-- an entity's fields -/
theorem zMP.setEnt (h : zMP b f ad z) {i : Nat} (hi60 : i < 60) {v : Nat → Int32} {fs : List Value} (hfs : fs = zent v) : zMP b (xup f (zen ad i) (.inr (0, fs))) ad (z.1, va_up z.2.1 i v, z.2.2) := by
  subst hfs
  obtain ⟨hi, hb, h0, hr, hl, hv, he, hba, hen⟩ := h
  have k0 : ∀ k, k < 107 → k ≠ 47 + i → xup f (zen ad i) (.inr (0, zent v)) (ad k) = f (ad k) := fun k hk n1 => xup_ne _ _ (hi.ne hk (by omega) n1)
  refine ⟨hi, fun a ha => ?_, ?_, fun j' hj' => ?_, ?_, ?_, ?_, ?_, fun i' hi' => ?_⟩
  · rw [xup_ne _ _ (show a ≠ zen ad i from ha (47 + i) (by omega))]; exact hb a ha
  · rw [k0 0 (by omega) (by omega)]; exact h0
  · obtain ⟨r1, r2, g', r3, r4⟩ := hr j' hj'
    exact ⟨r1, by unfold ro; rw [k0 _ (by omega) (by omega)]; exact r2, g', by unfold ra; rw [k0 _ (by omega) (by omega)]; exact r3, r4⟩
  · obtain ⟨l1, l2, st, sp, l3, l4, l5⟩ := hl
    exact ⟨l1, by unfold zml; rw [k0 _ (by omega) (by omega)]; exact l2, st, sp, by unfold zst; rw [k0 _ (by omega) (by omega)]; exact l3, by unfold zsp; rw [k0 _ (by omega) (by omega)]; exact l4, l5⟩
  · unfold zvl; rw [k0 _ (by omega) (by omega)]; exact hv
  · unfold zea; rw [k0 _ (by omega) (by omega)]; exact he
  · unfold zba; rw [k0 _ (by omega) (by omega)]; exact hba
  · by_cases e : i' = i
    · subst e; simp only [zup_self]; exact xup_self _ _ _
    · simp only [zup_ne _ _ e]; rw [show zen ad i' = ad (47 + i') from rfl, k0 _ (by omega) (by omega)]; exact hen i' hi'
/-- made and lost -/
theorem zMP.setMain (h : zMP b f ad z) {made lost : Nat} {fs : List Value} (hfs : fs = zmain ad made lost) : zMP b (xup f (ad 0) (.inr (4, fs))) ad (z.1, z.2.1, z.2.2.1, made, lost) := by
  subst hfs
  obtain ⟨hi, hb, h0, hr, hl, hv, he, hba, hen⟩ := h
  have k0 : ∀ k, k < 107 → k ≠ 0 → xup f (ad 0) (.inr (4, zmain ad made lost)) (ad k) = f (ad k) := fun k hk n1 => xup_ne _ _ (hi.ne hk (by omega) n1)
  refine ⟨hi, fun a ha => ?_, xup_self _ _ _, fun j' hj' => ?_, ?_, ?_, ?_, ?_, fun i' hi' => ?_⟩
  · rw [xup_ne _ _ (ha 0 (by omega))]; exact hb a ha
  · obtain ⟨r1, r2, g', r3, r4⟩ := hr j' hj'
    exact ⟨r1, by unfold ro; rw [k0 _ (by omega) (by omega)]; exact r2, g', by unfold ra; rw [k0 _ (by omega) (by omega)]; exact r3, r4⟩
  · obtain ⟨l1, l2, st, sp, l3, l4, l5⟩ := hl
    exact ⟨l1, by unfold zml; rw [k0 _ (by omega) (by omega)]; exact l2, st, sp, by unfold zst; rw [k0 _ (by omega) (by omega)]; exact l3, by unfold zsp; rw [k0 _ (by omega) (by omega)]; exact l4, l5⟩
  · unfold zvl; rw [k0 _ (by omega) (by omega)]; exact hv
  · unfold zea; rw [k0 _ (by omega) (by omega)]; exact he
  · unfold zba; rw [k0 _ (by omega) (by omega)]; exact hba
  · unfold zen; rw [k0 _ (by omega) (by omega)]; exact hen i' hi'
/-- lines -/
theorem zMP.setLin (h : zMP b f ad z) {ls : List (Nat × Nat)} {f' : xhp} (e1 : zlin f' ad ls) (e3 : ∀ a, a ≠ zml ad → a ≠ zst ad → a ≠ zsp ad → f' a = f a) : zMP b f' ad (z.1, z.2.1, ls, z.2.2.2) := by
  obtain ⟨hi, hb, h0, hr, hl, hv, he, hba, hen⟩ := h
  have k0 : ∀ k, k < 107 → k ≠ 41 → k ≠ 42 → k ≠ 43 → f' (ad k) = f (ad k) := fun k hk n1 n2 n3 => e3 _ (hi.ne hk (by omega) n1) (hi.ne hk (by omega) n2) (hi.ne hk (by omega) n3)
  refine ⟨hi, fun a ha => ?_, ?_, fun j' hj' => ?_, e1, ?_, ?_, ?_, fun i' hi' => ?_⟩
  · rw [e3 a (ha _ (by omega)) (ha _ (by omega)) (ha _ (by omega))]; exact hb a ha
  · rw [k0 0 (by omega) (by omega) (by omega) (by omega)]; exact h0
  · obtain ⟨r1, r2, g', r3, r4⟩ := hr j' hj'
    exact ⟨r1, by unfold ro; rw [k0 _ (by omega) (by omega) (by omega) (by omega)]; exact r2, g', by unfold ra; rw [k0 _ (by omega) (by omega) (by omega) (by omega)]; exact r3, r4⟩
  · unfold zvl; rw [k0 _ (by omega) (by omega) (by omega) (by omega)]; exact hv
  · unfold zea; rw [k0 _ (by omega) (by omega) (by omega) (by omega)]; exact he
  · unfold zba; rw [k0 _ (by omega) (by omega) (by omega) (by omega)]; exact hba
  · unfold zen; rw [k0 _ (by omega) (by omega) (by omega) (by omega)]; exact hen i' hi'
end ZU
/-! Row's methods -/
def rget (L : List Nat) (k : Int32) : Int32 := if k < 0 then -1 else if k.toNatClampNeg < L.length then nI (L.getD k.toNatClampNeg 0) else -1
theorem rget_nI {L : List Nat} {i : Nat} (h : i < L.length) (hL : L.length < 2 ^ 31) : rget L (nI i) = nI (L.getD i 0) := by
  unfold rget
  rw [if_neg (nI_pos (by omega)), nI_clamp (by omega), if_pos h]
theorem rget_out {L : List Nat} {i : Nat} (h : L.length ≤ i) (hi : i < 2 ^ 31) : rget L (nI i) = -1 := by
  unfold rget
  rw [if_neg (nI_pos (by omega)), nI_clamp (by omega), if_neg (by omega)]
section ZR
variable {b f : xhp} {ad : Nat → Nat} {z : zS}
theorem zrow.O {j : Nat} {L : List Nat} (h : zrow f ad j L) : xO f (ro ad j) 2 := ⟨_, h.2.1⟩
theorem m_get {j : Nat} {L : List Nat} (h : zrow f ad j L) {k : Int32} {post : Int32 → xhp → Prop} (hp : post (rget L k) f) : w_Ro_get post (ro ad j) k f := by
  obtain ⟨hle, e1, g, e2, hg⟩ := h
  have hcap := zcap_le j
  refine ⟨fun c => ?_, fun c => ⟨_, ⟨_, e1, rfl⟩, fun c2 => ?_, fun c2 => ⟨_, ⟨_, e1, rfl⟩, _, _, _, e2, by decide, fun c3 => ?_, fun c3 => ⟨_, ⟨_, e1, rfl⟩, _, _, e2, ?_, ?_⟩⟩⟩⟩
  · rw [rget, if_pos c] at hp; exact hp
  · obtain ⟨i, hi, rfl⟩ := nI_of c
    rw [nI_leI (by omega) hi] at c2
    rw [rget_out c2 hi] at hp; exact hp
  · obtain ⟨i, hi, rfl⟩ := nI_of c
    rw [nI_leI (by omega) hi] at c3
    rw [rget_out (by omega) hi] at hp; exact hp
  · obtain ⟨i, hi, rfl⟩ := nI_of c
    rw [nI_leI (by omega) hi] at c3
    exact vp_in_nI (by omega) (by omega)
  · obtain ⟨i, hi, rfl⟩ := nI_of c
    rw [nI_leI (by omega) hi] at c2
    rw [rget_nI (by omega) (by omega)] at hp
    show post (g (nI i).toNatClampNeg) f
    rw [nI_clamp hi, hg i (by omega)]; exact hp
theorem m_clear {j : Nat} (hj : j < 20) (h : zMP b f ad z) {post : xhp → Prop} (hp : ∀ f', zMP b f' ad (va_up z.1 j [], z.2) → post f') : w_Ro_clear post (ro ad j) f := by
  obtain ⟨hle, e1, g, e2, hg⟩ := h.2.2.2.1 j hj
  refine ⟨_, e1, by simp, fun f2 ef => hp f2 ?_⟩
  subst ef
  refine h.setRow hj (L := []) (g := g) (Nat.zero_le _) (fun i hi => absurd hi (Nat.not_lt_zero i)) (xup_self _ _ _) ?_ (fun a h1 h2 => xup_ne _ _ h1)
  rw [xup_ne _ _ (by unfold ra ro; exact h.1.ne (by omega) (by omega) (by omega))]
  exact e2
theorem m_add {j : Nat} (hj : j < 20) (h : zMP b f ad z) {x : Nat} (hx : (z.1 j).length < zcap j) {post : xhp → Prop} (hp : ∀ f', zMP b f' ad (va_up z.1 j (z.1 j ++ [x]), z.2) → post f') : w_Ro_add post (ro ad j) (nI x) f := by
  obtain ⟨hle, e1, g, e2, hg⟩ := h.2.2.2.1 j hj
  have hcap := zcap_le j
  have hne : ra ad j ≠ ro ad j := by unfold ra ro; exact h.1.ne (by omega) (by omega) (by omega)
  refine ⟨_, ⟨_, e1, rfl⟩, fun c => absurd c (nI_pos (by omega)), fun c => ⟨_, ⟨_, e1, rfl⟩, _, ⟨_, e1, rfl⟩, _, _, _, e2, by decide, fun c2 => ?_, fun c2 => ⟨_, ⟨_, e1, rfl⟩, _, ⟨_, e1, rfl⟩, _, _, e2, vp_in_nI hx (by omega), fun f2 ef2 => ?_⟩⟩⟩
  · rw [nI_leI (by omega) (by omega)] at c2; omega
  · have e3 : f2 (ro ad j) = some (.inr (2, [.ref (ra ad j), .int (nI (z.1 j).length)])) := by rw [ef2, xup_ne _ _ hne.symm]; exact e1
    refine ⟨_, ⟨_, e3, rfl⟩, _, e3, by simp, fun f3 ef3 => hp f3 ?_⟩
    refine h.setRow hj (g := upd g (nI (z.1 j).length).toNatClampNeg (nI x)) ?_ (fun i hi => ?_) ?_ ?_ (fun a h1 h2 => ?_)
    · simp; omega
    · rw [nI_clamp (by omega)]
      simp only [List.length_append, List.length_cons, List.length_nil] at hi
      by_cases e : i = (z.1 j).length
      · subst e; rw [pk_us]; simp [List.getD]
      · rw [pk_un e, hg i (by omega)]
        congr 1
        simp only [List.getD_eq_getElem?_getD]
        rw [List.getElem?_append_left (by omega)]
    · rw [ef3, xup_self]
      simp [nI_1]
    · rw [ef3, xup_ne _ _ hne, ef2, xup_self]
    · rw [ef3, xup_ne _ _ h1, ef2, xup_ne _ _ h2]
theorem m_set {j : Nat} (hj : j < 20) (h : zMP b f ad z) {k x : Nat} (hk : k < (z.1 j).length) {post : xhp → Prop} (hp : ∀ f', zMP b f' ad (va_up z.1 j ((z.1 j).set k x), z.2) → post f') : w_Ro_set post (ro ad j) (nI k) (nI x) f := by
  obtain ⟨hle, e1, g, e2, hg⟩ := h.2.2.2.1 j hj
  have hcap := zcap_le j
  have hne : ra ad j ≠ ro ad j := by unfold ra ro; exact h.1.ne (by omega) (by omega) (by omega)
  refine ⟨fun c => absurd c (nI_pos (by omega)), fun c => ⟨_, ⟨_, e1, rfl⟩, fun c2 => ?_, fun c2 => ⟨_, ⟨_, e1, rfl⟩, _, _, _, e2, by decide, fun c3 => ?_, fun c3 => ⟨_, ⟨_, e1, rfl⟩, _, _, e2, vp_in_nI (by omega) (by omega), fun f2 ef2 => hp f2 ?_⟩⟩⟩⟩
  · rw [nI_leI (by omega) (by omega)] at c2; omega
  · rw [nI_leI (by omega) (by omega)] at c3; omega
  · refine h.setRow hj (g := upd g (nI k).toNatClampNeg (nI x)) (by simpa using hle) (fun i hi => ?_) ?_ ?_ (fun a h1 h2 => ?_)
    · rw [nI_clamp (by omega)]
      simp only [List.length_set] at hi
      by_cases e : i = k
      · subst e; rw [pk_us]; simp [List.getD, hk]
      · rw [pk_un e, hg i hi]
        congr 1
        simp only [List.getD_eq_getElem?_getD]
        rw [List.getElem?_set_ne (Ne.symm e)]
    · rw [ef2, xup_ne _ _ hne.symm, e1]; simp
    · rw [ef2, xup_self]
    · rw [ef2, xup_ne _ _ h2]
theorem m_shorten {j : Nat} (hj : j < 20) (h : zMP b f ad z) {k : Nat} (hk : k ≤ (z.1 j).length) {post : xhp → Prop} (hp : ∀ f', zMP b f' ad (va_up z.1 j ((z.1 j).take k), z.2) → post f') : w_Ro_shorten post (ro ad j) (nI k) f := by
  obtain ⟨hle, e1, g, e2, hg⟩ := h.2.2.2.1 j hj
  have hcap := zcap_le j
  have hne : ra ad j ≠ ro ad j := by unfold ra ro; exact h.1.ne (by omega) (by omega) (by omega)
  have ev : (if 0 < (if nI k < nI (z.1 j).length then nI k else nI (z.1 j).length) then if nI k < nI (z.1 j).length then nI k else nI (z.1 j).length else 0) = nI k := by
    have e0 : (if nI k < nI (z.1 j).length then nI k else nI (z.1 j).length) = nI k := by
      by_cases e : k = (z.1 j).length
      · rw [← e]; simp
      · rw [if_pos (nI_lt (by omega) (by omega))]
    rw [e0]
    by_cases e : k = 0
    · subst e; decide
    · rw [if_pos]; exact nI_lt (a := 0) (by omega) (by omega)
  refine ⟨_, ⟨_, e1, rfl⟩, _, e1, by simp, fun f2 ef2 => hp f2 ?_⟩
  rw [ev] at ef2
  refine h.setRow hj (g := g) (by simp; omega) (fun i hi => ?_) ?_ ?_ (fun a h1 h2 => ?_)
  · simp only [List.length_take] at hi
    rw [hg i (by omega)]
    congr 1
    simp only [List.getD_eq_getElem?_getD]
    rw [List.getElem?_take_of_lt (by omega)]
  · rw [ef2, xup_self]; simp [Nat.min_eq_left hk]
  · rw [ef2, xup_ne _ _ hne]; exact e2
  · rw [ef2, xup_ne _ _ h1]
end ZR
