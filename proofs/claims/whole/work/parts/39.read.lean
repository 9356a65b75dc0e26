/-! the lines are in order; read -/
theorem tk_zL (M : List Nat) : ∀ n s i, s ≤ i → i ≤ M.length → (tk M n s i).length + s ≤ M.length ∧ (∀ k, k < (tk M n s i).length → ((tk M n s i).getD k (0, 0)).1 ≤ ((tk M n s i).getD k (0, 0)).2 ∧ ((tk M n s i).getD k (0, 0)).2 ≤ M.length) ∧ (∀ k, k + 1 < (tk M n s i).length → ((tk M n s i).getD k (0, 0)).2 < ((tk M n s i).getD (k + 1) (0, 0)).1) ∧ (0 < (tk M n s i).length → ((tk M n s i).getD 0 (0, 0)).1 = s) := by
  intro n
  induction n with
  | zero => intro s i h1 h2; exact ⟨by show 0 + s ≤ _; omega, fun k hk => absurd hk (Nat.not_lt_zero _), fun k hk => absurd hk (Nat.not_lt_zero _), fun h => absurd h (Nat.lt_irrefl _)⟩
  | succ n ih =>
    intro s i h1 h2
    by_cases c : i < M.length
    · by_cases c1 : M.getD i 0 = 10
      · have e : tk M (n + 1) s i = (s, if s < i ∧ M.getD (i - 1) 0 = 13 then i - 1 else i) :: tk M n (i + 1) (i + 1) := by
          show (if i < M.length then _ else _) = _
          rw [if_pos c, if_pos c1]
        obtain ⟨a1, a2, a3, a4⟩ := ih (i + 1) (i + 1) (Nat.le_refl _) (by omega)
        have ht : s ≤ (if s < i ∧ M.getD (i - 1) 0 = 13 then i - 1 else i) ∧ (if s < i ∧ M.getD (i - 1) 0 = 13 then i - 1 else i) ≤ i := by split <;> omega
        rw [e]
        refine ⟨by simp only [List.length_cons]; omega, fun k hk => ?_, fun k hk => ?_, fun _ => rfl⟩
        · cases k with
          | zero => exact ⟨ht.1, by show (if s < i ∧ M.getD (i - 1) 0 = 13 then i - 1 else i) ≤ M.length; omega⟩
          | succ k => exact a2 k (by simpa using hk)
        · cases k with
          | zero =>
            show (if s < i ∧ M.getD (i - 1) 0 = 13 then i - 1 else i) < ((tk M n (i + 1) (i + 1)).getD 0 (0, 0)).1
            rw [a4 (by simpa using hk)]; omega
          | succ k => exact a3 k (by simpa using hk)
      · have e : tk M (n + 1) s i = tk M n s (i + 1) := by
          show (if i < M.length then _ else _) = _
          rw [if_pos c, if_neg c1]
        rw [e]
        exact ih s (i + 1) (by omega) (by omega)
    · by_cases c1 : s < M.length
      · have e : tk M (n + 1) s i = [(s, M.length)] := by
          show (if i < M.length then _ else _) = _
          rw [if_neg c, if_pos c1]
        rw [e]
        refine ⟨by simp only [List.length_cons, List.length_nil]; omega, fun k hk => ?_, fun k hk => by simp at hk, fun _ => rfl⟩
        simp only [List.length_cons, List.length_nil] at hk
        have : k = 0 := by omega
        subst this
        exact ⟨by show s ≤ M.length; omega, Nat.le_refl _⟩
      · have e : tk M (n + 1) s i = [] := by
          show (if i < M.length then _ else _) = _
          rw [if_neg c, if_neg c1]
        rw [e]
        exact ⟨by show 0 + s ≤ _; omega, fun k hk => absurd hk (Nat.not_lt_zero _), fun k hk => absurd hk (Nat.not_lt_zero _), fun h => absurd h (Nat.lt_irrefl _)⟩
theorem lns_zL (M : List Nat) : zL M (lns M) := by
  obtain ⟨a1, a2, a3, _⟩ := tk_zL M (M.length + 1) 0 0 (Nat.le_refl _) (Nat.zero_le _)
  exact ⟨a1, a2, a3⟩
/-- of each ENTITY of the list -/
def aA (M : List Nat) (K : List (Nat × Nat)) (t : eT) : Bool := alH M K t.2.2.1 (tH M K t) t.2.2.2.2
def aG (M : List Nat) (K : List (Nat × Nat)) (t : eT) : Bool := hgH M K t.2.2.1 (tH M K t)
def aX (M : List Nat) (K : List (Nat × Nat)) (t : eT) : Bool := txH M K t.2.2.1 (tH M K t) t.2.2.2.2
def aM (M : List Nat) (K : List (Nat × Nat)) (t : eT) : Bool := htH M K t.2.2.1 (tH M K t) t.2.2.2.2
def aO (M : List Nat) (K : List (Nat × Nat)) (t : eT) : Bool := decide (tK M K t = 0) && (aX M K t && !(aG M K t))
def aH (M : List Nat) (K : List (Nat × Nat)) (t : eT) : Bool := decide (tK M K t = 0) && (aG M K t || !(aX M K t))
def cS (M : List Nat) (K : List (Nat × Nat)) (R : List eT) : cT := chR R (fun i => aA M K (R.getD i t0)) R.length (fun i => aO M K (R.getD i t0), fun i => aO M K (R.getD i t0) && aM M K (R.getD i t0), fun _ => 0)
def txL (M : List Nat) (K : List (Nat × Nat)) (R : List eT) : List Nat := lsT R (fun i => aA M K (R.getD i t0)) (cS M K R).2.2 (fun i => decide (tK M K (R.getD i t0) = 0)) (cS M K R).1 R.length
def hgL (M : List Nat) (K : List (Nat × Nat)) (R : List eT) : List Nat := (List.range R.length).filter (fun i => aH M K (R.getD i t0))
/-- the first task, and the whole -/
def tR (K : List (Nat × Nat)) : eT := (0, 0, 0, K.length, false)
def bldR (M : List Nat) : List eT × Nat := opE M (lns M) 9 (tR (lns M)) ([], 0)
theorem chS_C {R : List eT} {al : Nat → Bool} {N m : Nat} (hm : m < N) {s : cT} (h : ∀ i, s.2.2 i ≤ N) : ∀ i, (chS R al m s).2.2 i ≤ N := by
  intro i
  unfold chS
  repeat' split
  all_goals first
    | exact h i
    | skip
  dsimp only
  by_cases e : i = pr R m - 1
  · rw [e, zup_self]; omega
  · rw [zup_ne _ _ e]; exact h i
theorem chR_C {R : List eT} {al : Nat → Bool} {N : Nat} : ∀ m (s : cT), m ≤ N → (∀ i, s.2.2 i ≤ N) → ∀ i, (chR R al m s).2.2 i ≤ N := by
  intro m
  induction m with
  | zero => intro s _ h; exact h
  | succ m ih => intro s hm h; exact ih _ (by omega) (chS_C (by omega) h)
/-- the number of FIELDS: each name counts once -/
def nfl (M : List Nat) (K : List (Nat × Nat)) (fr h : Nat) : Nat := ((List.range (h - fr)).filter (fun k => match colL M K (fr + k) with
  | some c => decide (fl M K (sub M (lf M K (fr + k)) c) fr h = some (fr + k))
  | none => false)).length
/-- what rests in an ENTITY between the calls -/
def zF (M : List Nat) (K : List (Nat × Nat)) (R : List eT) (i : Nat) (t : eT) (w : Nat → Int32) : Prop :=
  w 0 = nI (tK M K t) ∧ w 1 = iI t.1 ∧ w 2 = nI t.2.1 ∧ w 3 = zb (aG M K t) ∧ w 4 = nI t.2.2.1 ∧ w 5 = nI (tH M K t) ∧ w 6 = nI (tB M K t) ∧ w 7 = nI t.2.2.2.1 ∧ w 8 = nI (R.countP (fun u => u.1 == i + 1)) ∧ (w 9 = -1 ∨ w 9 = nI (nfl M K t.2.2.1 (tH M K t))) ∧ w 11 = zb (tG M K t)
/-- the class between the calls: ready, tape, MAIL, ENTITIES, lost -/
def zN (b : xhp) (ad : Nat → Nat) (f : xhp) (Y P M : List Nat) (R : List eT) (lost : Nat) : Prop :=
  ∃ z : zS, zMP b f ad z ∧ z.1 0 = Y ∧ z.1 1 = P ∧ z.1 2 = M ∧ z.2.2.1 = lns M ∧ z.2.2.2.1 = R.length ∧ z.2.2.2.2 = lost ∧ R.length ≤ 60 ∧ zB Y ∧ zB P ∧ zB M ∧ (∀ k, k < 6 → z.1 (4 + k) = xbN k) ∧ z.1 10 = txL M (lns M) R ∧ z.1 11 = hgL M (lns M) R ∧ ∀ i, i < R.length → tOK M (lns M) R i (R.getD i t0) ∧ (R.getD i t0).2.1 ≤ 8 ∧ zF M (lns M) R i (R.getD i t0) (z.2.1 i)
section ZR3
variable {b f : xhp} {ad sk : Nat → Nat}
theorem m_read {Y P M : List Nat} {R : List eT} {lost : Nat} (h : zN b ad f Y P M R lost) {post : Int32 → xhp → Prop} (hp : ∀ f', zN b ad f' Y [] P (bldR P).1 (bldR P).2 → post (nI (bldR P).1.length) f') : w_Mp_read sk post (ad 0) f := by
  obtain ⟨z, h, z0, z1, z2, zl, zm, zo, h60, bY, bP, bM, zn, z10, z11, zE⟩ := h
  refine ⟨_, ⟨_, h.2.2.1, rfl⟩, _, ⟨_, h.2.2.1, rfl⟩, h.mO, m_take h (by rw [z1]; exact bP) (fun f3 h3 => ⟨_, ⟨_, h3.2.2.1, rfl⟩, h3.rO (by decide), m_clear (j := 1) (by decide) h3 (fun f5 h5 => ?_)⟩)⟩
  dsimp only at h5
  rw [z1] at h5
  refine ⟨_, h5.2.2.1, (by decide : (14 : Nat) < 16), fun f7 ef7 => ?_⟩
  have h7 : zMP b f7 ad (va_up (va_up z.1 2 P) 1 [], z.2.1, lns P, 0, z.2.2.2.2) := by
    subst ef7; exact h5.setMain (made := 0) (lost := z.2.2.2.2) (zmain_made _ _ _ _)
  clear ef7
  refine ⟨_, h7.2.2.1, (by decide : (15 : Nat) < 16), fun f9 ef9 => ?_⟩
  have h9 : zMP b f9 ad (va_up (va_up z.1 2 P) 1 [], z.2.1, lns P, 0, 0) := by
    subst ef9; exact h7.setMain (made := 0) (lost := 0) (zmain_lost _ _ _ _)
  clear ef9
  obtain ⟨r, hr⟩ : ∃ r, r = va_up (va_up z.1 2 P) 1 [] := ⟨_, rfl⟩
  rw [← hr] at h9
  have r2 : r 2 = P := by rw [hr, zup_ne _ _ (by decide), zup_self]
  have r1 : r 1 = [] := by rw [hr, zup_self]
  have rk : ∀ j, j ≠ 1 → j ≠ 2 → r j = z.1 j := fun j a1 a2 => by rw [hr, zup_ne _ _ a1, zup_ne _ _ a2]
  refine ⟨_, ⟨_, h9.2.2.1, rfl⟩, nI (lns P).length, ⟨_, h9.2.2.2.2.1.2.1, rfl⟩, h9.O0, ?_⟩
  obtain ⟨n9, hn9⟩ : ∃ n : Nat, n = 9 := ⟨9, rfl⟩
  refine ⟨n9, by omega, ?_⟩
  have hG : zG (r, z.2.1, lns P, 0, 0) := by
    refine ⟨by dsimp only; rw [r2]; exact bP, by dsimp only; rw [r2]; exact lns_zL P, fun k hk => ?_, by dsimp only; omega⟩
    dsimp only
    rw [rk _ (by omega) (by omega)]; exact zn k hk
  have hQ : zQ b ad P (lns P) f9 (r, z.2.1, lns P, 0, 0) [] 0 := ⟨h9, hG, r2, rfl, rfl, rfl, by decide, fun i hi => absurd hi (Nat.not_lt_zero _)⟩
  refine m_openE (M := P) (K := lns P) n9 0 (by omega) (tR (lns P)) _ f9 [] 0 _ hQ ⟨Nat.le_refl _, Nat.zero_le _, Nat.le_refl _, fun _ => ⟨rfl, rfl, rfl⟩, fun q => absurd q (Nat.lt_irrefl _)⟩ rfl (fun f12 z' hQ' hkeep => ?_)
  rw [show opE P (lns P) n9 (tR (lns P)) ([], 0) = bldR P by rw [hn9, bldR]] at hQ'
  generalize bldR P = B at hQ' hp
  obtain ⟨R', lo'⟩ := B
  obtain ⟨r', E', ls', m', l'⟩ := z'
  obtain ⟨h', g', q1, q2, w1, w2, w3, w4⟩ := hQ'
  dsimp only at q1 q2 w1 w2 w3 w4 hkeep hp
  subst q2 w1 w2
  have hprs : ∀ i, i < R'.length → pr R' i ≤ i := fun i hi => (w4 i hi).1.1
  refine ⟨h'.O0, m_choose (al := fun i => aA P (lns P) (R'.getD i t0)) (s := (fun i => aO P (lns P) (R'.getD i t0), fun i => aO P (lns P) (R'.getD i t0) && aM P (lns P) (R'.getD i t0), fun _ => 0)) w3 hprs h' (fun i hi => ⟨(w4 i hi).2.2.1, (w4 i hi).2.2.2.2.2.2.2.2.2.2.2.2.1⟩) (fun i hi => ?_) (fun f13 E1 h13 hk1 hC1 => ⟨h13.O0, ?_⟩)⟩
  · obtain ⟨_, _, _, _, _, _, _, _, _, _, aD⟩ := w4 i hi
    obtain ⟨d0, d3, d10, d11, d12, d13, d14, d15⟩ := aD
    exact ⟨d13, d14, d15⟩
  · refine m_list (al := fun i => aA P (lns P) (R'.getD i t0)) (T := (cS P (lns P) R').1) (C := (cS P (lns P) R').2.2) (kd := fun i => tK P (lns P) (R'.getD i t0)) (hg := fun i => aH P (lns P) (R'.getD i t0)) w3 hprs (fun i => kdH_le _ _ _ _ _ _) (chR_C R'.length _ w3 (fun _ => Nat.zero_le _)) h13 (fun i hi => ?_) (fun f14 r2' E2 h14 hr2 hk2 t10 t11 => ⟨_, ⟨_, h14.2.2.1, rfl⟩, hp f14 ?_⟩)
    · obtain ⟨_, _, a1, a2, a4, a5, a6, a7, a8, a9, aD⟩ := w4 i hi
      obtain ⟨d0, d3, d10, d11, d12, d13, d14, d15⟩ := aD
      obtain ⟨c1, c2, c3⟩ := hC1 i hi
      exact ⟨(hk1 i 1 (by decide) (by decide) (by decide)).trans a1, (hk1 i 10 (by decide) (by decide) (by decide)).trans d10, c1, c3, (hk1 i 0 (by decide) (by decide) (by decide)).trans d0, (hk1 i 12 (by decide) (by decide) (by decide)).trans d12⟩
    · have kk : ∀ j, j ≠ 3 → j ≠ 10 → j ≠ 11 → j < 12 → r2' j = r j := fun j b1 b2 b3 b4 => by rw [hr2 j b2 b3]; exact hkeep j b1 (by omega)
      refine ⟨_, h14, ?_, ?_, ?_, rfl, rfl, rfl, w3, bY, zB.nil, bP, fun k hk => ?_, t10, t11, fun i hi => ⟨(w4 i hi).1, (w4 i hi).2.1, ?_⟩⟩
      · dsimp only; rw [kk 0 (by decide) (by decide) (by decide) (by decide), rk 0 (by decide) (by decide)]; exact z0
      · dsimp only; rw [kk 1 (by decide) (by decide) (by decide) (by decide)]; exact r1
      · dsimp only; rw [kk 2 (by decide) (by decide) (by decide) (by decide)]; exact r2
      · dsimp only; rw [kk _ (by omega) (by omega) (by omega) (by omega), rk _ (by omega) (by omega)]; exact zn k hk
      · obtain ⟨_, _, a1, a2, a4, a5, a6, a7, a8, a9, aD⟩ := w4 i hi
        obtain ⟨d0, d3, d10, d11, d12, d13, d14, d15⟩ := aD
        have k2 : ∀ k, k ≠ 13 → k ≠ 14 → k ≠ 15 → k ≠ 16 → E2 i k = E' i k := fun k b1 b2 b3 b4 => (hk2 i k b4).trans (hk1 i k b1 b2 b3)
        exact ⟨(k2 0 (by decide) (by decide) (by decide) (by decide)).trans d0, (k2 1 (by decide) (by decide) (by decide) (by decide)).trans a1, (k2 2 (by decide) (by decide) (by decide) (by decide)).trans a2, (k2 3 (by decide) (by decide) (by decide) (by decide)).trans d3, (k2 4 (by decide) (by decide) (by decide) (by decide)).trans a4, (k2 5 (by decide) (by decide) (by decide) (by decide)).trans a5, (k2 6 (by decide) (by decide) (by decide) (by decide)).trans a6, (k2 7 (by decide) (by decide) (by decide) (by decide)).trans a7, (k2 8 (by decide) (by decide) (by decide) (by decide)).trans a8, Or.inl ((k2 9 (by decide) (by decide) (by decide) (by decide)).trans a9), (k2 11 (by decide) (by decide) (by decide) (by decide)).trans d11⟩
end ZR3
