/-! TEXTS: the class's choice and the reference's sets are one -/
def lst (Q : Nat → Bool) : Nat → Nat → Option Nat
  | 0, _ => none
  | k + 1, c => (lst Q k (c + 1)).or (if Q c = true then some c else none)
theorem lst_eq (Q : Nat → Bool) (k c : Nat) : lst Q (k + 1) c = (lst Q k (c + 1)).or (if Q c = true then some c else none) := rfl
theorem lst_some {Q : Nat → Bool} : ∀ k c j, lst Q k c = some j → c ≤ j ∧ j < c + k ∧ Q j = true := by
  intro k
  induction k with
  | zero => intro c j h; cases h
  | succ k ih =>
    intro c j h
    rw [lst_eq] at h
    cases e : lst Q k (c + 1) with
    | some i =>
      rw [e] at h
      cases h
      have := ih (c + 1) j e
      exact ⟨by omega, by omega, this.2.2⟩
    | none =>
      rw [e, Option.none_or] at h
      by_cases q : Q c = true
      · rw [if_pos q] at h; cases h; exact ⟨Nat.le_refl _, by omega, q⟩
      · rw [if_neg q] at h; cases h
theorem lst_none {Q : Nat → Bool} : ∀ k c, lst Q k c = none → ∀ j, c ≤ j → j < c + k → Q j = false := by
  intro k
  induction k with
  | zero => intro c _ j h1 h2; omega
  | succ k ih =>
    intro c h j h1 h2
    rw [lst_eq] at h
    cases e : lst Q k (c + 1) with
    | some i => rw [e] at h; cases h
    | none =>
      rw [e, Option.none_or] at h
      by_cases q : Q c = true
      · rw [if_pos q] at h; cases h
      · by_cases w : j = c
        · rw [w]; exact Bool.not_eq_true _ ▸ q
        · exact ih (c + 1) e j (by omega) (by omega)
theorem lst_congr {Q Q' : Nat → Bool} : ∀ k c, (∀ j, c ≤ j → j < c + k → Q j = Q' j) → lst Q k c = lst Q' k c := by
  intro k
  induction k with
  | zero => intro c _; rfl
  | succ k ih =>
    intro c h
    rw [lst_eq, lst_eq, ih (c + 1) (fun j h1 h2 => h j (by omega) (by omega)), h c (Nat.le_refl _) (by omega)]
theorem lst_skip {Q : Nat → Bool} {k : Nat} : ∀ d c, (∀ j, c ≤ j → j < c + d → Q j = false) → lst Q (d + k) c = lst Q k (c + d) := by
  intro d
  induction d with
  | zero => intro c _; rw [Nat.zero_add, Nat.add_zero]
  | succ d ih =>
    intro c h
    rw [show d + 1 + k = d + k + 1 by omega, lst_eq, h c (Nat.le_refl _) (by omega), if_neg Bool.false_ne_true, Option.or_none, ih (c + 1) (fun j h1 h2 => h j (by omega) (by omega))]
    congr 1; omega
def q1 (R : List eT) (s : Nat → Nat → Bool) (p c : Nat) : Bool := decide (pr R c = p + 1) && neS (s c)
def q2 (R : List eT) (H : Nat → Bool) (s : Nat → Nat → Bool) (p c : Nat) : Bool := q1 R s p c && !(neS (fun x => s c x && H x))
theorem pkF_lst (R : List eT) (H : Nat → Bool) (s : Nat → Nat → Bool) (e : Nat) : ∀ k c a, pkF R H s e k c a = ((lst (q1 R s e) k c).or a.1, (lst (q2 R H s e) k c).or a.2) := by
  intro k
  induction k with
  | zero => intro c a; rfl
  | succ k ih =>
    intro c a
    have e1 : pkF R H s e (k + 1) c a = pkF R H s e k (c + 1) (if pr R c = e + 1 ∧ neS (s c) = true then (some c, if neS (fun x => s c x && H x) = true then a.2 else some c) else a) := rfl
    rw [e1, ih, lst_eq, lst_eq, Option.or_assoc, Option.or_assoc]
    by_cases w : pr R c = e + 1 ∧ neS (s c) = true
    · have w1 : q1 R s e c = true := by unfold q1; rw [decide_eq_true w.1, w.2]; rfl
      rw [if_pos w, if_pos w1]
      by_cases v : neS (fun x => s c x && H x) = true
      · rw [if_pos v, if_neg (by unfold q2; rw [v]; simp)]; rfl
      · rw [if_neg v, if_pos (by rw [Bool.not_eq_true] at v; unfold q2; rw [w1, v]; rfl)]; rfl
    · have w1 : ¬ q1 R s e c = true := by
        intro v; unfold q1 at v; rw [Bool.and_eq_true, decide_eq_true_eq] at v; exact w v
      rw [if_neg w, if_neg w1, if_neg (by intro v; unfold q2 at v; rw [Bool.and_eq_true] at v; exact w1 v.1)]; rfl
theorem pick_lst (R : List eT) (H : Nat → Bool) (s : Nat → Nat → Bool) (e : Nat) : pick R H s e = (lst (q2 R H s e) (R.length - (e + 1)) (e + 1)).or (lst (q1 R s e) (R.length - (e + 1)) (e + 1)) := by
  unfold pick
  rw [pkF_lst, Option.or_none, Option.or_none]
  cases lst (q2 R H s e) (R.length - (e + 1)) (e + 1) with
  | none => rfl
  | some c => rfl
theorem neS_iff {S : Nat → Bool} (h : ∀ x, S x = true → x < 60) : neS S = true ↔ ∃ x, S x = true := by
  unfold neS
  rw [List.any_eq_true]
  constructor
  · rintro ⟨x, _, hx⟩; exact ⟨x, hx⟩
  · rintro ⟨x, hx⟩; exact ⟨x, List.mem_range.mpr (h x hx), hx⟩
def nO (o : Option Nat) : Nat := match o with
  | some c => c + 1
  | none => 0
section TX
variable {R : List eT} {al O Hm : Nat → Bool} {S : Nat → Nat → Bool}
/-- what is known of the sets -/
def tX (R : List eT) (al O Hm : Nat → Bool) (S : Nat → Nat → Bool) : Prop :=
  (∀ p, p < R.length → al p = false → ∀ x, S p x = true ↔ (O p = true ∧ x = p) ∨ ∃ c, c < R.length ∧ pr R c = p + 1 ∧ S c x = true) ∧ (∀ p, p < R.length → al p = true → S p = oS S ((lst (q2 R Hm S p) R.length 0).or (lst (q1 R S p) R.length 0))) ∧ (∀ p, al p = true → O p = false) ∧ (∀ c, c < R.length → pr R c ≤ c) ∧ (∀ c x, S c x = true → x < 60)
def tI (R : List eT) (al O Hm : Nat → Bool) (S : Nat → Nat → Bool) (m : Nat) (s : cT) : Prop :=
  (∀ p, p < R.length → al p = false → (s.1 p = true ↔ O p = true ∨ ∃ c, m ≤ c ∧ c < R.length ∧ pr R c = p + 1 ∧ neS (S c) = true) ∧ (s.2.1 p = true ↔ (O p = true ∧ Hm p = true) ∨ ∃ c, m ≤ c ∧ c < R.length ∧ pr R c = p + 1 ∧ neS (fun x => S c x && Hm x) = true)) ∧ (∀ p, p < R.length → al p = true → s.1 p = (lst (q1 R S p) (R.length - m) m).isSome ∧ s.2.1 p = ((lst (q1 R S p) (R.length - m) m).isSome && (lst (q2 R Hm S p) (R.length - m) m).isNone) ∧ s.2.2 p = nO ((lst (q2 R Hm S p) (R.length - m) m).or (lst (q1 R S p) (R.length - m) m)))
theorem ht_ne (hX : tX R al O Hm S) {c : Nat} (h : neS (fun x => S c x && Hm x) = true) : neS (S c) = true := by
  rw [neS_iff (fun x hx => hX.2.2.2.2 c x (by rw [Bool.and_eq_true] at hx; exact hx.1))] at h
  obtain ⟨x, hx⟩ := h
  rw [Bool.and_eq_true] at hx
  rw [neS_iff (hX.2.2.2.2 c)]
  exact ⟨x, hx.1⟩
theorem tI_link (hX : tX R al O Hm S) {m p : Nat} {s : cT} (hI : tI R al O Hm S m s) (hp : p < R.length) (hm : m ≤ p + 1) (hmn : m ≤ R.length) : s.1 p = neS (S p) ∧ s.2.1 p = neS (fun x => S p x && Hm x) := by
  have hh : ∀ c, (∀ x, (S c x && Hm x) = true → x < 60) := fun c x hx => hX.2.2.2.2 c x (by rw [Bool.and_eq_true] at hx; exact hx.1)
  by_cases ha : al p = true
  · obtain ⟨i1, i2, _⟩ := hI.2 p hp ha
    have hS := hX.2.1 p hp ha
    have e1 : lst (q1 R S p) R.length 0 = lst (q1 R S p) (R.length - m) m := by
      have := lst_skip (Q := q1 R S p) (k := R.length - m) m 0 (fun j _ h2 => by
        unfold q1
        have := hX.2.2.2.1 j (by omega)
        rw [decide_eq_false (by omega), Bool.false_and])
      rw [show m + (R.length - m) = R.length by omega, Nat.zero_add] at this; exact this
    have e2 : lst (q2 R Hm S p) R.length 0 = lst (q2 R Hm S p) (R.length - m) m := by
      have := lst_skip (Q := q2 R Hm S p) (k := R.length - m) m 0 (fun j _ h2 => by
        unfold q2 q1
        have := hX.2.2.2.1 j (by omega)
        rw [decide_eq_false (by omega), Bool.false_and, Bool.false_and])
      rw [show m + (R.length - m) = R.length by omega, Nat.zero_add] at this; exact this
    rw [e1, e2] at hS
    rw [i1, i2]
    cases l2 : lst (q2 R Hm S p) (R.length - m) m with
    | some c =>
      have h2 := lst_some _ _ _ l2
      have hq := h2.2.2
      unfold q2 at hq
      rw [Bool.and_eq_true, Bool.not_eq_true'] at hq
      rw [l2] at hS
      have hS : S p = S c := hS
      have q1c := hq.1
      unfold q1 at q1c
      rw [Bool.and_eq_true] at q1c
      rw [hS, hq.2, q1c.2]
      cases l1 : lst (q1 R S p) (R.length - m) m with
      | some c' => exact ⟨rfl, rfl⟩
      | none =>
        have := lst_none _ _ l1 c h2.1 h2.2.1
        rw [hq.1] at this; cases this
    | none =>
      rw [l2, Option.none_or] at hS
      cases l1 : lst (q1 R S p) (R.length - m) m with
      | some c =>
        rw [l1] at hS
        have hS : S p = S c := hS
        have h1 := lst_some _ _ _ l1
        have h2 := lst_none _ _ l2 c h1.1 h1.2.1
        have q1c := h1.2.2
        unfold q2 at h2
        rw [q1c, Bool.true_and, Bool.not_eq_false'] at h2
        unfold q1 at q1c
        rw [Bool.and_eq_true] at q1c
        rw [hS, h2, q1c.2]
        exact ⟨rfl, rfl⟩
      | none =>
        rw [l1] at hS
        have hS : S p = fun _ => false := hS
        rw [hS]
        constructor
        · show false = _
          symm
          rw [← Bool.not_eq_true, neS_iff (fun x hx => by cases hx)]
          rintro ⟨x, hx⟩; cases hx
        · show false = _
          symm
          rw [← Bool.not_eq_true, neS_iff (fun x hx => by rw [Bool.false_and] at hx; cases hx)]
          rintro ⟨x, hx⟩; rw [Bool.false_and] at hx; cases hx
  · rw [Bool.not_eq_true] at ha
    obtain ⟨i1, i2⟩ := hI.1 p hp ha
    have hS := hX.1 p hp ha
    constructor
    · rw [Bool.eq_iff_iff, i1, neS_iff (hX.2.2.2.2 p)]
      constructor
      · rintro (h | ⟨c, c1, c2, c3, c4⟩)
        · exact ⟨p, (hS p).mpr (Or.inl ⟨h, rfl⟩)⟩
        · rw [neS_iff (hX.2.2.2.2 c)] at c4
          obtain ⟨x, hx⟩ := c4
          exact ⟨x, (hS x).mpr (Or.inr ⟨c, c2, c3, hx⟩)⟩
      · rintro ⟨x, hx⟩
        rcases (hS x).mp hx with h | ⟨c, c2, c3, c4⟩
        · exact Or.inl h.1
        · have := hX.2.2.2.1 c c2
          exact Or.inr ⟨c, by omega, c2, c3, (neS_iff (hX.2.2.2.2 c)).mpr ⟨x, c4⟩⟩
    · rw [Bool.eq_iff_iff, i2, neS_iff (hh p)]
      constructor
      · rintro (h | ⟨c, c1, c2, c3, c4⟩)
        · exact ⟨p, by rw [Bool.and_eq_true]; exact ⟨(hS p).mpr (Or.inl ⟨h.1, rfl⟩), h.2⟩⟩
        · rw [neS_iff (hh c)] at c4
          obtain ⟨x, hx⟩ := c4
          rw [Bool.and_eq_true] at hx
          exact ⟨x, by rw [Bool.and_eq_true]; exact ⟨(hS x).mpr (Or.inr ⟨c, c2, c3, hx.1⟩), hx.2⟩⟩
      · rintro ⟨x, hx⟩
        rw [Bool.and_eq_true] at hx
        rcases (hS x).mp hx.1 with h | ⟨c, c2, c3, c4⟩
        · exact Or.inl ⟨h.1, by rw [← h.2]; exact hx.2⟩
        · have := hX.2.2.2.1 c c2
          exact Or.inr ⟨c, by omega, c2, c3, (neS_iff (hh c)).mpr ⟨x, by rw [Bool.and_eq_true]; exact ⟨c4, hx.2⟩⟩⟩
theorem tI_step (hX : tX R al O Hm S) {m : Nat} {s : cT} (hm : m < R.length) (hI : tI R al O Hm S (m + 1) s) : tI R al O Hm S m (chS R al m s) := by
  obtain ⟨lk1, lk2⟩ := tI_link hX hI hm (Nat.le_refl _) (by omega)
  have hpm := hX.2.2.2.1 m hm
  have en : R.length - m = (R.length - (m + 1)) + 1 := by omega
  -- nothing comes to p
  have stay : ∀ p, p < R.length → (pr R m ≠ p + 1 ∨ neS (S m) = false) → ∀ s' : cT, s'.1 p = s.1 p → s'.2.1 p = s.2.1 p → s'.2.2 p = s.2.2 p → (al p = false → (s'.1 p = true ↔ O p = true ∨ ∃ c, m ≤ c ∧ c < R.length ∧ pr R c = p + 1 ∧ neS (S c) = true) ∧ (s'.2.1 p = true ↔ (O p = true ∧ Hm p = true) ∨ ∃ c, m ≤ c ∧ c < R.length ∧ pr R c = p + 1 ∧ neS (fun x => S c x && Hm x) = true)) ∧ (al p = true → s'.1 p = (lst (q1 R S p) (R.length - m) m).isSome ∧ s'.2.1 p = ((lst (q1 R S p) (R.length - m) m).isSome && (lst (q2 R Hm S p) (R.length - m) m).isNone) ∧ s'.2.2 p = nO ((lst (q2 R Hm S p) (R.length - m) m).or (lst (q1 R S p) (R.length - m) m))) := by
    intro p hp hno s' e1 e2 e3
    have n1 : q1 R S p m = false := by
      unfold q1
      rcases hno with h | h
      · rw [decide_eq_false h, Bool.false_and]
      · rw [h, Bool.and_false]
    have n2 : q2 R Hm S p m = false := by unfold q2; rw [n1, Bool.false_and]
    rw [e1, e2, e3]
    refine ⟨fun ha => ?_, fun ha => ?_⟩
    · obtain ⟨i1, i2⟩ := hI.1 p hp ha
      rw [i1, i2]
      constructor
      · constructor
        · rintro (h | ⟨c, c1, c2⟩)
          · exact Or.inl h
          · exact Or.inr ⟨c, by omega, c2⟩
        · rintro (h | ⟨c, c1, c2, c3, c4⟩)
          · exact Or.inl h
          · by_cases q : c = m
            · subst q
              rcases hno with h | h
              · exact absurd c3 h
              · rw [h] at c4; cases c4
            · exact Or.inr ⟨c, by omega, c2, c3, c4⟩
      · constructor
        · rintro (h | ⟨c, c1, c2⟩)
          · exact Or.inl h
          · exact Or.inr ⟨c, by omega, c2⟩
        · rintro (h | ⟨c, c1, c2, c3, c4⟩)
          · exact Or.inl h
          · by_cases q : c = m
            · subst q
              rcases hno with h | h
              · exact absurd c3 h
              · rw [ht_ne hX c4] at h; cases h
            · exact Or.inr ⟨c, by omega, c2, c3, c4⟩
    · rw [en, lst_eq, lst_eq, n1, n2, if_neg Bool.false_ne_true, Option.or_none, Option.or_none]
      exact hI.2 p hp ha
  have pack : ∀ s' : cT, (∀ p, p < R.length → (al p = false → (s'.1 p = true ↔ O p = true ∨ ∃ c, m ≤ c ∧ c < R.length ∧ pr R c = p + 1 ∧ neS (S c) = true) ∧ (s'.2.1 p = true ↔ (O p = true ∧ Hm p = true) ∨ ∃ c, m ≤ c ∧ c < R.length ∧ pr R c = p + 1 ∧ neS (fun x => S c x && Hm x) = true)) ∧ (al p = true → s'.1 p = (lst (q1 R S p) (R.length - m) m).isSome ∧ s'.2.1 p = ((lst (q1 R S p) (R.length - m) m).isSome && (lst (q2 R Hm S p) (R.length - m) m).isNone) ∧ s'.2.2 p = nO ((lst (q2 R Hm S p) (R.length - m) m).or (lst (q1 R S p) (R.length - m) m)))) → tI R al O Hm S m s' := fun s' h => ⟨fun p hp => (h p hp).1, fun p hp => (h p hp).2⟩
  unfold chS
  by_cases q0 : pr R m = 0
  · rw [if_pos q0]
    exact pack s (fun p hp => stay p hp (Or.inl (by omega)) s rfl rfl rfl)
  rw [if_neg q0]
  by_cases t0_ : s.1 m = false
  · rw [if_pos t0_]
    exact pack s (fun p hp => stay p hp (Or.inr (by rw [← lk1]; exact t0_)) s rfl rfl rfl)
  rw [if_neg t0_]
  rw [Bool.not_eq_false] at t0_
  have ne : neS (S m) = true := by rw [← lk1]; exact t0_
  obtain ⟨q, eq⟩ : ∃ q, q = pr R m - 1 := ⟨_, rfl⟩
  have hq : pr R m = q + 1 := by omega
  rw [← eq]
  have hql : q < R.length := by omega
  have n1 : q1 R S q m = true := by unfold q1; rw [decide_eq_true hq, ne]; rfl
  by_cases ha : al q = false
  · rw [if_pos ha]
    refine pack _ (fun p hp => ?_)
    by_cases e : p = q
    · subst e
      refine ⟨fun _ => ?_, fun w => (by rw [ha] at w; cases w)⟩
      obtain ⟨i1, i2⟩ := hI.1 p hp ha
      dsimp only
      rw [zup_self, zup_self]
      constructor
      · exact ⟨fun _ => Or.inr ⟨m, Nat.le_refl _, hm, hq, ne⟩, fun _ => rfl⟩
      · rw [Bool.or_eq_true, i2, lk2]
        constructor
        · rintro ((h | ⟨c, c1, c2⟩) | h)
          · exact Or.inl h
          · exact Or.inr ⟨c, by omega, c2⟩
          · exact Or.inr ⟨m, Nat.le_refl _, hm, hq, h⟩
        · rintro (h | ⟨c, c1, c2, c3, c4⟩)
          · exact Or.inl (Or.inl h)
          · by_cases w : c = m
            · subst w; exact Or.inr c4
            · exact Or.inl (Or.inr ⟨c, by omega, c2, c3, c4⟩)
    · exact stay p hp (Or.inl (by omega)) _ (zup_ne _ _ e) (zup_ne _ _ e) rfl
  · rw [if_neg ha]
    rw [Bool.not_eq_false] at ha
    obtain ⟨i1, i2, i3⟩ := hI.2 q hql ha
    have n2 : q2 R Hm S q m = !(s.2.1 m) := by unfold q2; rw [n1, lk2, Bool.true_and]
    have l12 : (lst (q1 R S q) (R.length - (m + 1)) (m + 1)).isSome = false → lst (q2 R Hm S q) (R.length - (m + 1)) (m + 1) = none := by
      intro w
      cases l2 : lst (q2 R Hm S q) (R.length - (m + 1)) (m + 1) with
      | none => rfl
      | some c =>
        have h2 := lst_some _ _ _ l2
        rw [Option.isSome_eq_false_iff, Option.isNone_iff_eq_none] at w
        have h1 := lst_none _ _ w c h2.1 h2.2.1
        have := h2.2.2
        unfold q2 at this
        rw [h1, Bool.false_and] at this; cases this
    by_cases ct : s.1 q = false ∨ (s.2.1 q = true ∧ s.2.1 m = false)
    · rw [if_pos ct]
      refine pack _ (fun p hp => ?_)
      by_cases e : p = q
      · subst e
        refine ⟨fun w => (by rw [ha] at w; cases w), fun _ => ?_⟩
        dsimp only
        rw [zup_self, zup_self, zup_self, en, lst_eq, lst_eq, n1, n2, if_pos rfl]
        rw [i1, i2] at ct
        generalize lst (q1 R S p) (R.length - (m + 1)) (m + 1) = L1 at ct l12
        generalize lst (q2 R Hm S p) (R.length - (m + 1)) (m + 1) = L2 at ct l12
        generalize s.2.1 m = hm' at ct
        cases L1 with
        | none =>
          have : L2 = none := l12 rfl
          subst this
          cases hm' <;> exact ⟨rfl, rfl, rfl⟩
        | some c =>
          cases L2 with
          | some c2 => simp at ct
          | none =>
            have : hm' = false := by simpa using ct
            subst this
            exact ⟨rfl, rfl, rfl⟩
      · exact stay p hp (Or.inl (by omega)) _ (zup_ne _ _ e) (zup_ne _ _ e) (zup_ne _ _ e)
    · rw [if_neg ct]
      refine pack _ (fun p hp => ?_)
      by_cases e : p = q
      · subst e
        refine ⟨fun w => (by rw [ha] at w; cases w), fun _ => ?_⟩
        rw [i1, i2] at ct
        rw [i1, i2, i3, en, lst_eq, lst_eq, n1, n2, if_pos rfl]
        generalize lst (q1 R S p) (R.length - (m + 1)) (m + 1) = L1 at ct l12
        generalize lst (q2 R Hm S p) (R.length - (m + 1)) (m + 1) = L2 at ct l12
        generalize s.2.1 m = hm' at ct
        cases L1 with
        | none => simp at ct
        | some c =>
          cases L2 with
          | some c2 => exact ⟨rfl, rfl, rfl⟩
          | none =>
            have : hm' = true := by simpa using ct
            subst this
            exact ⟨rfl, rfl, rfl⟩
      · exact stay p hp (Or.inl (by omega)) s rfl rfl rfl
theorem tI_all (hX : tX R al O Hm S) : ∀ m s, m ≤ R.length → tI R al O Hm S m s → tI R al O Hm S 0 (chR R al m s) := by
  intro m
  induction m with
  | zero => intro s _ h; exact h
  | succ m ih => intro s hm h; exact ih _ (by omega) (tI_step hX (by omega) h)
theorem tI_first (hX : tX R al O Hm S) : tI R al O Hm S R.length (O, fun i => O i && Hm i, fun _ => 0) := by
  refine ⟨fun p hp ha => ⟨⟨fun h => Or.inl h, ?_⟩, ⟨fun h => Or.inl (by dsimp only at h; rw [Bool.and_eq_true] at h; exact h), ?_⟩⟩, fun p hp ha => ?_⟩
  · rintro (h | ⟨c, c1, c2, _⟩)
    · exact h
    · omega
  · rintro (h | ⟨c, c1, c2, _⟩)
    · dsimp only; rw [Bool.and_eq_true]; exact h
    · omega
  · rw [Nat.sub_self]
    dsimp only
    rw [hX.2.2.1 p ha]
    exact ⟨rfl, rfl, rfl⟩
end TX
