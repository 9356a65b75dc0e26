/-! the class's CONSTRUCTOR -/
def zr (j : Nat) : Nat := [1, 3, 6, 11, 13, 15, 17, 19, 21, 23, 103, 105, 87, 89, 91, 93, 95, 97, 99, 101].getD j 0
def zmt (i : Nat) : Nat := [1, 3, 5, 10, 13, 15, 17, 19, 21, 23, 25, 86, 103, 105].getD i 0
def zLn (j : Nat) : List Nat := if 4 ≤ j ∧ j < 10 then xbN (j - 4) else []
theorem zr_ok : ∀ j, j < 20 → (decide (zr j ≠ 0) && (decide (zr j ≠ 25) && (decide (zr j ≠ 86) && (decide (zr j + 1 ≠ 25) && decide (zr j + 1 ≠ 86))))) = true := by decide +kernel
/-- what is there, of n cells -/
def zFa (f : xhp) (ao : Nat → Nat) (n : Nat) : Prop :=
  (∀ j, j < 20 → zr j + 1 < n → okR f ao (zr j) (zcap j) (zLn j)) ∧ (9 < n → f (ao 5) = some (.inr (1, [.ref (ao 6), .ref (ao 8), .ref (ao 9), .int 0])) ∧ f (ao 8) = some (.inl (0, 1500, xbI (fun _ => 0))) ∧ f (ao 9) = some (.inl (0, 1500, xbI (fun _ => 0)))) ∧ (11 < n → f (ao 10) = some (.inr (3, [.ref (ao 11)]))) ∧ (∀ i, i < 60 → 26 + i < n → f (ao (26 + i)) = some (.inr (0, dv_En))) ∧ (25 < n → ∃ g : Nat → Option Nat, f (ao 25) = some (.inl (2, 60, xbR g)) ∧ ∀ i, i < 60 → 26 + i < n → g i = some (ao (26 + i))) ∧ (86 < n → ∃ g : Nat → Option Nat, f (ao 86) = some (.inl (1, 8, xbR g)) ∧ ∀ i, i < 8 → 88 + 2 * i < n → g i = some (ao (87 + 2 * i)))
def zPs (b f : xhp) (ao : Nat → Nat) (n k : Nat) : Prop :=
  hS b f ao n ∧ (∃ fs : List Value, fs.length = 16 ∧ f (ao 0) = some (.inr (4, fs)) ∧ ∀ i, i < k → zmt i < n ∧ fs[i]? = some (.ref (ao (zmt i)))) ∧ zFa f ao n
section NC
variable {b f f1 : xhp} {ao ao1 : Nat → Nat} {n n' k : Nat}
theorem zFa.ext (X : Nat) (h : zFa f ao n) (hX : X = 0 ∨ X = 25 ∨ X = 86) (r : ∀ t, t < n → ao1 t = ao t ∧ (t ≠ 0 → t ≠ X → f1 (ao t) = f (ao t))) (rows : ∀ j, j < 20 → zr j + 1 < n' → zr j + 1 < n ∨ okR f1 ao1 (zr j) (zcap j) (zLn j)) (ma : 9 < n' → 9 < n ∨ (f1 (ao1 5) = some (.inr (1, [.ref (ao1 6), .ref (ao1 8), .ref (ao1 9), .int 0])) ∧ f1 (ao1 8) = some (.inl (0, 1500, xbI (fun _ => 0))) ∧ f1 (ao1 9) = some (.inl (0, 1500, xbI (fun _ => 0))))) (va : 11 < n' → 11 < n ∨ f1 (ao1 10) = some (.inr (3, [.ref (ao1 11)]))) (en : ∀ i, i < 60 → 26 + i < n' → 26 + i < n ∨ f1 (ao1 (26 + i)) = some (.inr (0, dv_En))) (ea : 25 < n' → (X ≠ 25 ∧ 25 < n ∧ ∀ i, i < 60 → 26 + i < n' → 26 + i < n) ∨ ∃ g : Nat → Option Nat, f1 (ao1 25) = some (.inl (2, 60, xbR g)) ∧ ∀ i, i < 60 → 26 + i < n' → g i = some (ao1 (26 + i))) (ga : 86 < n' → (X ≠ 86 ∧ 86 < n ∧ ∀ i, i < 8 → 88 + 2 * i < n' → 88 + 2 * i < n) ∨ ∃ g : Nat → Option Nat, f1 (ao1 86) = some (.inl (1, 8, xbR g)) ∧ ∀ i, i < 8 → 88 + 2 * i < n' → g i = some (ao1 (87 + 2 * i))) : zFa f1 ao1 n' := by
  obtain ⟨h1, h2, h3, h4, h5, h6⟩ := h
  have rr : ∀ t, t < n → t ≠ 0 → t ≠ 25 → t ≠ 86 → f1 (ao1 t) = f (ao t) := fun t q1 q2 q3 q4 => by
    obtain ⟨a, c⟩ := r t q1
    rw [a]; exact c q2 (by omega)
  have ra : ∀ t, t < n → ao1 t = ao t := fun t q => (r t q).1
  refine ⟨fun j hj hl => ?_, fun hl => ?_, fun hl => ?_, fun i hi hl => ?_, fun hl => ?_, fun hl => ?_⟩
  · rcases rows j hj hl with c | c
    · obtain ⟨k1, k2, g, k3, k4⟩ := h1 j hj c
      have z := zr_ok j hj
      simp only [Bool.and_eq_true, decide_eq_true_eq] at z
      exact ⟨k1, by rw [rr _ (by omega) (by omega) (by omega) (by omega), ra _ c]; exact k2, g, by rw [rr _ c (by omega) (by omega) (by omega)]; exact k3, k4⟩
    · exact c
  · rcases ma hl with c | c
    · obtain ⟨k1, k2, k3⟩ := h2 c
      exact ⟨by rw [rr 5 (by omega) (by decide) (by decide) (by decide), ra 6 (by omega), ra 8 (by omega), ra 9 (by omega)]; exact k1, by rw [rr 8 (by omega) (by decide) (by decide) (by decide)]; exact k2, by rw [rr 9 (by omega) (by decide) (by decide) (by decide)]; exact k3⟩
    · exact c
  · rcases va hl with c | c
    · rw [rr 10 (by omega) (by decide) (by decide) (by decide), ra 11 c]; exact h3 c
    · exact c
  · rcases en i hi hl with c | c
    · rw [rr _ c (by omega) (by omega) (by omega)]; exact h4 i hi c
    · exact c
  · rcases ea hl with ⟨c1, c2, c3⟩ | c
    · obtain ⟨g, g1, g2⟩ := h5 c2
      obtain ⟨a, w⟩ := r 25 c2
      exact ⟨g, by rw [a, w (by decide) (fun e => c1 e.symm)]; exact g1, fun i hi hl => by rw [ra _ (c3 i hi hl)]; exact g2 i hi (c3 i hi hl)⟩
    · exact c
  · rcases ga hl with ⟨c1, c2, c3⟩ | c
    · obtain ⟨g, g1, g2⟩ := h6 c2
      obtain ⟨a, w⟩ := r 86 c2
      exact ⟨g, by rw [a, w (by decide) (fun e => c1 e.symm)]; exact g1, fun i hi hl => by rw [ra _ (by have := c3 i hi hl; omega)]; exact g2 i hi (c3 i hi hl)⟩
    · exact c
/-- a field of the object gets the cell -/
theorem zPs.store (h : zPs b f ao n k) (h0 : 0 < n) (hS1 : hS b f1 ao1 n') (r : zfr f ao n f1 ao1) (hnn : n ≤ n') (hk : zmt k < n') (k14 : k < 14) (hF : zFa f1 ao1 n') {p0 : Nat} (hp0 : ao 0 = p0) {q : Nat} (hq : ao1 (zmt k) = q) {Q : xhp → Prop} (hp : ∀ f', zPs b f' ao1 n' (k + 1) → ao1 0 = p0 → Q f') : ∃ fs : List Value, f1 p0 = some (.inr (4, fs)) ∧ k < fs.length ∧ ∀ f2 : xhp, f2 = xup f1 p0 (.inr (4, fs.set k (.ref q))) → Q f2 := by
  obtain ⟨_, ⟨fs, l16, m0, mf⟩, _⟩ := h
  obtain ⟨a0, c0⟩ := r 0 h0
  subst hp0
  subst hq
  refine ⟨fs, by rw [c0]; exact m0, by omega, fun f2 e2 => hp f2 ?_ a0⟩
  have w := hS1.wr (t := 0) (by omega) (.inr (4, fs.set k (.ref (ao1 (zmt k)))))
  rw [a0] at w
  rw [← e2] at w
  refine ⟨w.1, ⟨fs.set k (.ref (ao1 (zmt k))), by rw [List.length_set]; exact l16, by rw [a0, e2, xup_self], fun i hi => ?_⟩, hF.ext 0 (Or.inl rfl) (fun t ht => ⟨rfl, fun t0_ _ => w.2 t ht t0_⟩) (fun j _ c => Or.inl c) (fun c => Or.inl c) (fun c => Or.inl c) (fun i _ c => Or.inl c) (fun c => Or.inl ⟨by decide, c, fun _ _ c => c⟩) (fun c => Or.inl ⟨by decide, c, fun _ _ c => c⟩)⟩
  by_cases e : i = k
  · subst e
    exact ⟨hk, by rw [List.getElem?_set_self (by omega)]⟩
  · obtain ⟨m1, m2⟩ := mf i (by omega)
    exact ⟨by omega, by rw [List.getElem?_set_ne (fun c => e c.symm), m2, (r _ m1).1]⟩
/-- a row is made and stored -/
theorem z_srow (h : zPs b f ao n k) (h0 : 0 < n) {j cap : Nat} {p1 : Int32} (hj : j < 20) (hjn : zr j = n) (hkn : zmt k = n) (hcap : zcap j = cap) (hL : zLn j = []) (k14 : k < 14) (hp1 : p1 = nI cap) (h11 : n + 2 ≤ 9 ∨ 12 ≤ n) (h25 : n + 2 ≤ 25 ∨ 102 < n) (hrw : ∀ j', j' < 20 → zr j' + 1 < n + 2 → zr j' + 1 < n ∨ j' = j) {p0 : Nat} (hp0 : ao 0 = p0) {q1 : Nat} {f2 : xhp} (hq : f q1 = none) (e2 : f2 = xup f q1 (.inr (2, dv_Ro))) {Q : xhp → Prop} (hp : ∀ f' ao', zPs b f' ao' (n + 2) (k + 1) → ao' 0 = p0 → Q f') : w_Ro_init (fun f3 => ∃ fs : List Value, f3 p0 = some (.inr (4, fs)) ∧ k < fs.length ∧ ∀ f7 : xhp, f7 = xup f3 p0 (.inr (4, fs.set k (.ref q1))) → Q f7) 1 cap q1 p1 f2 := by
  have hc := zcap_le j
  refine n_row h.1 hq e2 (cap := cap) (by omega) hp1 (fun f3 ao3 h3 r3 en k3 => ?_)
  refine zPs.store h h0 h3 r3 (by omega) (by omega) k14 ?_ hp0 (by rw [hkn]; exact en) (fun f' h' e' => hp f' ao3 h' e')
  refine h.2.2.ext 0 (Or.inl rfl) (fun t ht => ⟨(r3 t ht).1, fun _ _ => (r3 t ht).2⟩) (fun j' hj' c => ?_) (fun c => Or.inl (by omega)) (fun c => Or.inl (by omega)) (fun i hi c => Or.inl (by omega)) (fun c => Or.inl ⟨by decide, by omega, fun i hi c => by omega⟩) (fun c => Or.inl ⟨by decide, by omega, fun i hi c => by omega⟩)
  rcases hrw j' hj' c with w | w
  · exact Or.inl w
  · subst w
    right
    rw [hjn, hcap, hL]; exact k3
/-- a name's row is made and stored -/
theorem z_sname (h : zPs b f ao n k) (h0 : 0 < n) {sk : Nat → Nat} {j : Nat} (hj : j < 6) (hjn : zr (4 + j) = n) (hkn : zmt k = n) (hcap : zcap (4 + j) = (xbN j).length) (k14 : k < 14) (h12 : 12 ≤ n) (h25 : n + 2 ≤ 25) (hrw : ∀ j', j' < 20 → zr j' + 1 < n + 2 → zr j' + 1 < n ∨ j' = 4 + j) {p0 : Nat} (hp0 : ao 0 = p0) {Q : xhp → Prop} (hp : ∀ f' ao', zPs b f' ao' (n + 2) (k + 1) → ao' 0 = p0 → Q f') : w_Mp_rowOf sk (fun r f3 => ∃ fs : List Value, f3 p0 = some (.inr (4, fs)) ∧ k < fs.length ∧ ∀ f7 : xhp, f7 = xup f3 p0 (.inr (4, fs.set k (va_rf r))) → Q f7) 2 (2 + (xbN j).length) (sk j) f := by
  refine n_rowOf h.1 (by omega) (fun f3 ao3 h3 r3 k3 => ?_)
  refine zPs.store h h0 h3 r3 (by omega) (by omega) k14 ?_ hp0 (by rw [hkn]) (fun f' h' e' => hp f' ao3 h' e')
  refine h.2.2.ext 0 (Or.inl rfl) (fun t ht => ⟨(r3 t ht).1, fun _ _ => (r3 t ht).2⟩) (fun j' hj' c => ?_) (fun c => Or.inl (by omega)) (fun c => Or.inl (by omega)) (fun i hi c => Or.inl (by omega)) (fun c => Or.inl ⟨by decide, by omega, fun i hi c => by omega⟩) (fun c => Or.inl ⟨by decide, by omega, fun i hi c => by omega⟩)
  rcases hrw j' hj' c with w | w
  · exact Or.inl w
  · subst w
    right
    have : zLn (4 + j) = xbN j := by unfold zLn; rw [if_pos (by omega), Nat.add_sub_cancel_left]
    rw [hjn, hcap, this]; exact k3
end NC
