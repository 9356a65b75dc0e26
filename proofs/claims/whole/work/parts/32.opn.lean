/-! THE ENTITIES: a task is (the number of what is around it and 1, or 0; depth; its lines; whether it is in a digest) -/
abbrev eT : Type := Nat × Nat × Nat × Nat × Bool
def t0 : eT := (0, 0, 0, 0, false)
def iI (k : Nat) : Int32 := if k = 0 then -1 else nI (k - 1)
def ebd (M : List Nat) (K : List (Nat × Nat)) (h to_ : Nat) : Nat := if h < to_ ∧ ¬ lf M K h < lt M K h then h + 1 else h
/-- the parts of a MULTI -/
def prt (M : List Nat) (K : List (Nat × Nat)) (B : List Nat) (e : Nat) : Nat → Nat → Option Nat → List (Nat × Nat)
  | 0, _, bg => bg.toList.map (fun a => (a, e))
  | n + 1, l, bg => if l < e then (if mk M B (lf M K l) (lt M K l) = 0 then prt M K B e n (l + 1) bg else bg.toList.map (fun a => (a, l)) ++ (if mk M B (lf M K l) (lt M K l) = 2 then [] else prt M K B e n (l + 1) (some (l + 1)))) else bg.toList.map (fun a => (a, e))
def tH (M : List Nat) (K : List (Nat × Nat)) (t : eT) : Nat := hd M K t.2.2.1 t.2.2.2.1
def tB (M : List Nat) (K : List (Nat × Nat)) (t : eT) : Nat := ebd M K (tH M K t) t.2.2.2.1
def tK (M : List Nat) (K : List (Nat × Nat)) (t : eT) : Nat := kdH M K t.2.2.1 (tH M K t) t.2.1 t.2.2.2.2
def tG (M : List Nat) (K : List (Nat × Nat)) (t : eT) : Bool := dgH M K t.2.2.1 (tH M K t) t.2.2.2.2
def tN (M : List Nat) (K : List (Nat × Nat)) (t : eT) : List Nat := bnd M K t.2.2.1 (tH M K t)
def kid (M : List Nat) (K : List (Nat × Nat)) (t : eT) (me : Nat) (p : Nat × Nat) : eT := (me + 1, t.2.1 + 1, p.1, p.2, tG M K t)
def kids (M : List Nat) (K : List (Nat × Nat)) (t : eT) (me : Nat) : List eT :=
  if tK M K t = 1 then (prt M K (tN M K t) t.2.2.2.1 (t.2.2.2.1 - tB M K t) (tB M K t) none).map (kid M K t me)
  else if tK M K t = 2 then [kid M K t me (tB M K t, t.2.2.2.1)] else []
def opE (M : List Nat) (K : List (Nat × Nat)) : Nat → eT → List eT × Nat → List eT × Nat
  | 0, _, s => (s.1, s.2 + 1)
  | n + 1, t, s => if s.1.length < 60 then (kids M K t s.1.length).foldl (fun s t => opE M K n t s) (s.1 ++ [t], s.2) else (s.1, s.2 + 1)
/-- a task fits to what is there -/
def tOK (M : List Nat) (K : List (Nat × Nat)) (R : List eT) (i : Nat) (t : eT) : Prop :=
  t.1 ≤ i ∧ t.2.2.1 ≤ t.2.2.2.1 ∧ t.2.2.2.1 ≤ K.length ∧ (t.1 = 0 → t.2.1 = 0 ∧ t.2.2.2.2 = false ∧ i = 0) ∧ (0 < t.1 → t.2.1 = (R.getD (t.1 - 1) t0).2.1 + 1 ∧ t.2.2.2.2 = tG M K (R.getD (t.1 - 1) t0) ∧ tK M K (R.getD (t.1 - 1) t0) ≠ 0)
def zA (M : List Nat) (K : List (Nat × Nat)) (R : List eT) (i : Nat) (t : eT) (w : Nat → Int32) : Prop :=
  w 1 = iI t.1 ∧ w 2 = nI t.2.1 ∧ w 4 = nI t.2.2.1 ∧ w 5 = nI (tH M K t) ∧ w 6 = nI (tB M K t) ∧ w 7 = nI t.2.2.2.1 ∧ w 8 = nI (R.countP (fun u => u.1 == i + 1)) ∧ w 9 = -1 ∧ zD M K t.2.2.1 (tH M K t) t.2.1 t.2.2.2.2 w
/-- the state of the class in the building -/
def zW (M : List Nat) (K : List (Nat × Nat)) (z : zS) (R : List eT) (lost : Nat) : Prop :=
  z.2.2.2.1 = R.length ∧ z.2.2.2.2 = lost ∧ R.length ≤ 60 ∧ ∀ i, i < R.length → tOK M K R i (R.getD i t0) ∧ (R.getD i t0).2.1 ≤ 8 ∧ zA M K R i (R.getD i t0) (z.2.1 i)
def zQ (b : xhp) (ad : Nat → Nat) (M : List Nat) (K : List (Nat × Nat)) (f : xhp) (z : zS) (R : List eT) (lost : Nat) : Prop := zMP b f ad z ∧ zG z ∧ z.1 2 = M ∧ z.2.2.1 = K ∧ zW M K z R lost
/-- what a call of openEntity at depth dp does -/
def zOp (b : xhp) (ad : Nat → Nat) (M : List Nat) (K : List (Nat × Nat)) (n dp : Nat) (Rc : (xhp → Prop) → Nat → Int32 → Int32 → Int32 → Int32 → xhp → Prop) : Prop :=
  ∀ (t : eT) (z : zS) (f : xhp) (R : List eT) (lost : Nat) (post : xhp → Prop), zQ b ad M K f z R lost → tOK M K R R.length t → t.2.1 = dp → (∀ f' z', zQ b ad M K f' z' (opE M K n t (R, lost)).1 (opE M K n t (R, lost)).2 → (∀ j, j ≠ 3 → j < 12 + dp → z'.1 j = z.1 j) → post f') → Rc post (ad 0) (nI t.2.2.1) (nI t.2.2.2.1) (iI t.1) (nI t.2.1) f
theorem opE_pre (M : List Nat) (K : List (Nat × Nat)) : ∀ n t s, s.1 <+: (opE M K n t s).1 := by
  intro n
  induction n with
  | zero => intro t s; exact List.prefix_refl _
  | succ n ih =>
    intro t s
    have fo : ∀ (ks : List eT) (s : List eT × Nat), s.1 <+: (ks.foldl (fun s t => opE M K n t s) s).1 := by
      intro ks
      induction ks with
      | nil => intro s; exact List.prefix_refl _
      | cons k ks ih2 => intro s; exact (ih k s).trans (ih2 _)
    unfold opE
    split
    · exact (List.prefix_append _ _).trans (fo _ (s.1 ++ [t], s.2))
    · exact List.prefix_refl _
theorem pre_get {A B : List eT} (h : A <+: B) {i : Nat} (hi : i < A.length) : B.getD i t0 = A.getD i t0 := by
  obtain ⟨C, rfl⟩ := h
  simp only [List.getD_eq_getElem?_getD]
  rw [List.getElem?_append_left hi]
theorem tOK.pre {M : List Nat} {K : List (Nat × Nat)} {A B : List eT} {i : Nat} {t : eT} (h : tOK M K A i t) (hp : A <+: B) (hi : i ≤ A.length) : tOK M K B i t := by
  obtain ⟨h1, h2, h3, h4, h5⟩ := h
  refine ⟨h1, h2, h3, h4, fun q => ?_⟩
  rw [pre_get hp (by omega)]
  exact h5 q
theorem tOK.mono {M : List Nat} {K : List (Nat × Nat)} {A : List eT} {i j : Nat} {t : eT} (h : tOK M K A i t) (hij : i ≤ j) (ht : 0 < t.1) : tOK M K A j t := by
  obtain ⟨h1, h2, h3, h4, h5⟩ := h
  exact ⟨by omega, h2, h3, fun q => absurd q (by omega), h5⟩
theorem hdF_le {M : List Nat} {K : List (Nat × Nat)} {a e : Nat} : ∀ n l, l ≤ e → l ≤ hdF M K a e n l ∧ hdF M K a e n l ≤ e := by
  intro n
  induction n with
  | zero => intro l h; exact ⟨h, Nat.le_refl _⟩
  | succ n ih =>
    intro l h
    simp only [hdF]
    split
    · split
      · have := ih (l + 1) (by omega); omega
      · omega
    · omega
theorem tH_le (M : List Nat) (K : List (Nat × Nat)) {t : eT} (h : t.2.2.1 ≤ t.2.2.2.1) : t.2.2.1 ≤ tH M K t ∧ tH M K t ≤ t.2.2.2.1 := hdF_le _ _ h
theorem tB_le (M : List Nat) (K : List (Nat × Nat)) {t : eT} (h : t.2.2.1 ≤ t.2.2.2.1) : t.2.2.1 ≤ tB M K t ∧ tB M K t ≤ t.2.2.2.1 := by
  have := tH_le M K h
  unfold tB ebd
  split <;> omega
theorem zB.typ {M : List Nat} {K : List (Nat × Nat)} (h : zB M) (fr hh : Nat) (dg : Bool) : zB (typ M K fr hh dg) := by
  unfold Jvm.Pilot.CMailPartsLaw_law_r4041_3cd308.typ
  split
  · exact (h.fieldV _ _ _).itm
  · split
    · exact xbN_zB (by decide)
    · exact xbN_zB (by decide)
theorem mk_le (M B : List Nat) (s e : Nat) : mk M B s e ≤ 2 := by
  unfold mk
  repeat' split
  all_goals omega
