/-! the stack of tasks, and what becomes of it -/
def stk (M : List Nat) (K : List (Nat × Nat)) (Q : List eT) (s : List eT × Nat) : List eT × Nat := Q.foldl (fun s t => opE M K (9 - t.2.1) t s) s
theorem kids_dp {M : List Nat} {K : List (Nat × Nat)} {t : eT} {me : Nat} : ∀ u ∈ kids M K t me, u.2.1 = t.2.1 + 1 ∧ u.1 = me + 1 ∧ u.2.2.2.2 = tG M K t := by
  intro u hu
  unfold kids at hu
  split at hu
  · rw [List.mem_map] at hu
    obtain ⟨p, _, rfl⟩ := hu
    exact ⟨rfl, rfl, rfl⟩
  · split at hu
    · rw [List.mem_singleton] at hu
      subst hu
      exact ⟨rfl, rfl, rfl⟩
    · cases hu
theorem foldl_dp {M : List Nat} {K : List (Nat × Nat)} {n : Nat} : ∀ (L : List eT) (s : List eT × Nat), (∀ u ∈ L, 9 - u.2.1 = n) → L.foldl (fun s t => opE M K n t s) s = stk M K L s := by
  intro L
  induction L with
  | nil => intro s _; rfl
  | cons u L ih =>
    intro s h
    show L.foldl _ (opE M K n u s) = stk M K L (opE M K (9 - u.2.1) u s)
    rw [h u (List.mem_cons_self ..)]
    exact ih _ (fun v hv => h v (List.mem_cons_of_mem _ hv))
theorem stk_pop {M : List Nat} {K : List (Nat × Nat)} {t : eT} {Q R : List eT} {lost : Nat} (hd : t.2.1 ≤ 8) : stk M K (t :: Q) (R, lost) = if R.length < 60 then stk M K (kids M K t R.length ++ Q) (R ++ [t], lost) else stk M K Q (R, lost + 1) := by
  show stk M K Q (opE M K (9 - t.2.1) t (R, lost)) = _
  obtain ⟨n, hn⟩ : ∃ n, 9 - t.2.1 = n + 1 := ⟨8 - t.2.1, by omega⟩
  rw [hn]
  have e1 : opE M K (n + 1) t (R, lost) = if R.length < 60 then (kids M K t R.length).foldl (fun s t => opE M K n t s) (R ++ [t], lost) else (R, lost + 1) := rfl
  rw [e1]
  by_cases c : R.length < 60
  · rw [if_pos c, if_pos c]
    unfold stk
    rw [List.foldl_append]
    have := foldl_dp (M := M) (K := K) (n := n) (kids M K t R.length) (R ++ [t], lost) (fun u hu => by have := (kids_dp u hu).1; omega)
    unfold stk at this
    rw [this]
  · rw [if_neg c, if_neg c]
def chT (M : List Nat) (K : List (Nat × Nat)) : Nat → List eT → Prop
  | _, [] => True
  | a, t :: Q => a ≤ pos M K t.2.2.1 ∧ t.2.2.1 ≤ t.2.2.2.1 ∧ t.2.2.2.1 ≤ K.length ∧ chT M K (pos M K t.2.2.2.1 + 4) Q
theorem chT.le {M : List Nat} {K : List (Nat × Nat)} {Q : List eT} {a a' : Nat} (h : chT M K a Q) (q : a' ≤ a) : chT M K a' Q := by
  cases Q with
  | nil => trivial
  | cons t Q => exact ⟨Nat.le_trans q h.1, h.2⟩
theorem chT_len {M : List Nat} {K : List (Nat × Nat)} (hL : zL M K) : ∀ (Q : List eT) (a : Nat), chT M K a Q → Q.length = 0 ∨ a + 4 * (Q.length - 1) ≤ M.length + 1 := by
  intro Q
  induction Q with
  | nil => intro a _; exact Or.inl rfl
  | cons p Q ih =>
    intro a h
    obtain ⟨h1, h2, h3, h4⟩ := h
    have q1 := pos_le hL p.2.2.1
    have q2 := pos_le hL p.2.2.2.1
    have q3 := pos_mono hL h2
    right
    simp only [List.length_cons]
    rcases ih _ h4 with q | q
    · omega
    · omega
theorem chT_app {M : List Nat} {K : List (Nat × Nat)} {t : eT} {me e : Nat} (he : e ≤ K.length) {Q : List eT} (hQ : chT M K (pos M K e + 4) Q) (hL : zL M K) : ∀ (S : List (Nat × Nat)) (a : Nat), chP M K e a S → a ≤ pos M K e + 4 → chT M K a (S.map (kid M K t me) ++ Q) := by
  intro S
  induction S with
  | nil => intro a _ ha; exact hQ.le ha
  | cons p S ih =>
    intro a h ha
    obtain ⟨h1, h2, h3, h4⟩ := h
    refine ⟨h1, h2, ?_, ih _ h4 ?_⟩
    · show p.2 ≤ K.length; omega
    · show pos M K p.2 + 4 ≤ pos M K e + 4; have := pos_mono hL h3; omega
theorem chT_kids {M : List Nat} {K : List (Nat × Nat)} (hL : zL M K) {t : eT} {Q : List eT} {me a : Nat} (h : chT M K a (t :: Q)) : chT M K a (kids M K t me ++ Q) := by
  obtain ⟨h1, h2, h3, h4⟩ := h
  have hB := tB_le M K h2
  have p1 := pos_mono hL hB.1
  have p2 := pos_mono hL hB.2
  unfold kids
  split
  · rename_i ek
    have hB1 : 1 ≤ (tN M K t).length := by
      have e2 : tK M K t = if t.2.1 < 8 then (if muH M K t.2.2.1 (tH M K t) t.2.2.2.2 = true then 1 else if ecH M K t.2.2.1 (tH M K t) t.2.2.2.2 = true then 2 else 0) else 0 := kdH_eq M K t.2.2.1 (tH M K t) t.2.1 t.2.2.2.2
      rw [e2] at ek
      by_cases c : t.2.1 < 8
      · rw [if_pos c] at ek
        by_cases c1 : muH M K t.2.2.1 (tH M K t) t.2.2.2.2 = true
        · unfold muH at c1
          rw [Bool.and_eq_true, decide_eq_true_eq] at c1
          exact c1.2.1
        · rw [if_neg c1] at ek
          by_cases c2 : ecH M K t.2.2.1 (tH M K t) t.2.2.2.2 = true
          · rw [if_pos c2] at ek; omega
          · rw [if_neg c2] at ek; omega
      · rw [if_neg c] at ek; omega
    refine chT_app h3 h4 hL _ a ?_ (by omega)
    exact prt_ch hL hB1 h3 (t.2.2.2.1 - tB M K t) (tB M K t) none a rfl hB.2 (fun c hc => by cases hc) (fun _ => by omega)
  · split
    · exact ⟨by show a ≤ pos M K (tB M K t); omega, hB.2, h3, h4⟩
    · exact h4.le (by have := pos_mono hL h2; omega)
