/-! Mail and Value made; the object's state behind the constructor -/
section NC2
variable {b f : xhp} {ao : Nat → Nat} {n : Nat}
theorem h_set (h : hS b f ao n) {t ci k p0 : Nat} {fs : List Value} {v : Value} (ht : t < n) (hc : f (ao t) = some (.inr (ci, fs))) (hk : k < fs.length) (hp0 : ao t = p0) {Q : xhp → Prop} (hp : ∀ f', hS b f' ao n → f' (ao t) = some (.inr (ci, fs.set k v)) → (∀ s, s < n → s ≠ t → f' (ao s) = f (ao s)) → Q f') : ∃ fs' : List Value, f p0 = some (.inr (ci, fs')) ∧ k < fs'.length ∧ ∀ f2 : xhp, f2 = xup f p0 (.inr (ci, fs'.set k v)) → Q f2 := by
  subst hp0
  obtain ⟨w1, w2⟩ := h.wr ht (.inr (ci, fs.set k v))
  exact ⟨fs, hc, hk, fun f2 e2 => by subst e2; exact hp _ w1 (xup_self _ _ _) w2⟩
theorem nw_Ma (h : hS b f ao n) {q : Nat} {f2 : xhp} (hq : f q = none) (e2 : f2 = xup f q (.inr (1, dv_Ma))) {post : xhp → Prop} (hp : ∀ f' ao', hS b f' ao' (n + 5) → zfr f ao n f' ao' → ao' n = q → okR f' ao' (n + 1) 1500 [] → f' (ao' n) = some (.inr (1, [.ref (ao' (n + 1)), .ref (ao' (n + 3)), .ref (ao' (n + 4)), .int 0])) → f' (ao' (n + 3)) = some (.inl (0, 1500, xbI (fun _ => 0))) → f' (ao' (n + 4)) = some (.inl (0, 1500, xbI (fun _ => 0))) → post f') : w_Ma_init post 4 4502 q f2 := by
  subst e2
  obtain ⟨h1, r1⟩ := h.al hq (.inr (1, dv_Ma))
  have an : va_up ao n q n = q := zup_self _ _ _
  have m1 : (xup f q (.inr (1, dv_Ma))) (va_up ao n q n) = some (.inr (1, dv_Ma)) := by rw [an, xup_self]
  generalize xup f q (.inr (1, dv_Ma)) = f1 at *
  generalize va_up ao n q = ao1 at *
  refine ⟨by decide, by decide, fun q1 f2 hq1 e2 => ⟨1, 1500, by decide, by decide, n_row h1 hq1 e2 (cap := 1500) (by decide) rfl (fun f3 ao3 h3 r3 en3 k3 => ?_)⟩⟩
  have a3 : ao3 n = q := by rw [(r3 n (by omega)).1]; exact an
  have m3 : f3 (ao3 n) = some (.inr (1, dv_Ma)) := by rw [(r3 n (by omega)).1, (r3 n (by omega)).2]; exact m1
  refine h_set h3 (t := n) (by omega) m3 (by decide) a3 (fun f7 h7 m7 w7 => ⟨1500, by decide, rfl, by decide, by decide, fun q8 f9 hq8 e9 => ?_⟩)
  subst e9
  obtain ⟨h9, r9⟩ := h7.al hq8 (.inl (0, 1500, xbI (fun _ => 0)))
  have b9 : (xup f7 q8 (.inl (0, 1500, xbI (fun _ => 0)))) (va_up ao3 (n + 1 + 2) q8 (n + 3)) = some (.inl (0, 1500, xbI (fun _ => 0))) := by rw [show va_up ao3 (n + 1 + 2) q8 (n + 3) = q8 from zup_self _ _ _, xup_self]
  have e8 : va_up ao3 (n + 1 + 2) q8 (n + 3) = q8 := zup_self _ _ _
  generalize xup f7 q8 (.inl (0, 1500, xbI (fun _ => 0))) = f9 at *
  generalize va_up ao3 (n + 1 + 2) q8 = ao9 at *
  have a9 : ao9 n = q := by rw [(r9 n (by omega)).1]; exact a3
  have m9 := m7
  rw [← (r9 n (by omega)).2, ← (r9 n (by omega)).1] at m9
  refine h_set h9 (t := n) (by omega) m9 (by simp) a9 (fun f12 h12 m12 w12 => ⟨1500, by decide, rfl, by decide, by decide, fun q13 f14 hq13 e14 => ?_⟩)
  subst e14
  obtain ⟨h14, r14⟩ := h12.al hq13 (.inl (0, 1500, xbI (fun _ => 0)))
  have e13 : va_up ao9 (n + 1 + 2 + 1) q13 (n + 4) = q13 := zup_self _ _ _
  have b14 : (xup f12 q13 (.inl (0, 1500, xbI (fun _ => 0)))) (va_up ao9 (n + 1 + 2 + 1) q13 (n + 4)) = some (.inl (0, 1500, xbI (fun _ => 0))) := by rw [e13, xup_self]
  generalize xup f12 q13 (.inl (0, 1500, xbI (fun _ => 0))) = f14 at *
  generalize va_up ao9 (n + 1 + 2 + 1) q13 = ao14 at *
  have a14 : ao14 n = q := by rw [(r14 n (by omega)).1]; exact a9
  have m14 := m12
  rw [← (r14 n (by omega)).2, ← (r14 n (by omega)).1] at m14
  refine h_set h14 (t := n) (by omega) m14 (by simp) a14 (fun f17 h17 m17 w17 => ?_)
  refine h_set h17 (t := n) (by omega) m17 (by simp) a14 (fun f19 h19 m19 w19 => ?_)
  -- every other cell
  have fr3 : ∀ s, s < n + 3 → s ≠ n → ao14 s = ao3 s ∧ f19 (ao3 s) = f3 (ao3 s) := by
    intro s hs hn
    have x9 := r9 s hs
    have x14 := r14 s (by omega)
    have y7 := w7 s hs hn
    have y12 := w12 s (by omega) hn
    have y17 := w17 s (by omega) hn
    have y19 := w19 s (by omega) hn
    have ea : ao14 s = ao3 s := x14.1.trans x9.1
    rw [ea] at y17 y19
    rw [x9.1] at y12 x14
    exact ⟨ea, y19.trans (y17.trans (x14.2.trans (y12.trans (x9.2.trans y7))))⟩
  have f3' : ao14 (n + 1) = q1 := by rw [(fr3 (n + 1) (by omega) (by omega)).1]; exact en3
  have f8' : ao14 (n + 3) = q8 := by rw [(r14 (n + 3) (by omega)).1]; exact e8
  have b19 : f19 (ao14 (n + 3)) = some (.inl (0, 1500, xbI (fun _ => 0))) := by
    rw [w19 (n + 3) (by omega) (by omega), w17 (n + 3) (by omega) (by omega), (r14 (n + 3) (by omega)).1, (r14 (n + 3) (by omega)).2, w12 (n + 3) (by omega) (by omega)]
    exact b9
  refine hp f19 ao14 h19 (fun t ht => ?_) a14 ?_ ?_ b19 ?_
  · obtain ⟨c1, c2⟩ := fr3 t (by omega) (by omega)
    obtain ⟨c3, c4⟩ := r3 t (by omega)
    obtain ⟨c5, c6⟩ := r1 t ht
    rw [c3] at c2
    rw [c5] at c2 c4
    exact ⟨c1.trans (c3.trans c5), c2.trans (c4.trans c6)⟩
  · obtain ⟨k1, k2, g, k4, k5⟩ := k3
    obtain ⟨c1, c2⟩ := fr3 (n + 1) (by omega) (by omega)
    obtain ⟨d1, d2⟩ := fr3 (n + 1 + 1) (by omega) (by omega)
    exact ⟨k1, by rw [c1, d1, c2]; exact k2, g, by rw [d1, d2]; exact k4, k5⟩
  · rw [m19, f3', f8', e13]; rfl
  · rw [w19 (n + 4) (by omega) (by omega), w17 (n + 4) (by omega) (by omega)]; exact b14
theorem nw_Va (h : hS b f ao n) {q : Nat} {f2 : xhp} (hq : f q = none) (e2 : f2 = xup f q (.inr (3, dv_Va))) {post : xhp → Prop} (hp : ∀ f' ao', hS b f' ao' (n + 3) → zfr f ao n f' ao' → ao' n = q → okR f' ao' (n + 1) 1500 [] → f' (ao' n) = some (.inr (3, [.ref (ao' (n + 1))])) → post f') : w_Va_init post 2 1502 q f2 := by
  subst e2
  obtain ⟨h1, r1⟩ := h.al hq (.inr (3, dv_Va))
  have an : va_up ao n q n = q := zup_self _ _ _
  have m1 : (xup f q (.inr (3, dv_Va))) (va_up ao n q n) = some (.inr (3, dv_Va)) := by rw [an, xup_self]
  generalize xup f q (.inr (3, dv_Va)) = f1 at *
  generalize va_up ao n q = ao1 at *
  refine ⟨by decide, by decide, fun q1 f2 hq1 e2 => ⟨1, 1500, by decide, by decide, n_row h1 hq1 e2 (cap := 1500) (by decide) rfl (fun f3 ao3 h3 r3 en3 k3 => ?_)⟩⟩
  have a3 : ao3 n = q := by rw [(r3 n (by omega)).1]; exact an
  have m3 : f3 (ao3 n) = some (.inr (3, dv_Va)) := by rw [(r3 n (by omega)).1, (r3 n (by omega)).2]; exact m1
  refine h_set h3 (t := n) (by omega) m3 (by decide) a3 (fun f7 h7 m7 w7 => hp f7 ao3 h7 (fun t ht => ?_) a3 ?_ ?_)
  · obtain ⟨c3, c4⟩ := r3 t (by omega)
    obtain ⟨c5, c6⟩ := r1 t ht
    have c2 := w7 t (by omega) (by omega)
    rw [c3] at c2
    rw [c5] at c2 c4
    exact ⟨c3.trans c5, c2.trans (c4.trans c6)⟩
  · obtain ⟨k1, k2, g, k4, k5⟩ := k3
    exact ⟨k1, by rw [w7 (n + 1) (by omega) (by omega)]; exact k2, g, by rw [w7 (n + 1 + 1) (by omega) (by omega)]; exact k4, k5⟩
  · rw [m7, en3]; rfl
/-- where the state's cells lie -/
def zpi (k : Nat) : Nat := if k ≤ 4 then k else if k ≤ 6 then k + 1 else if k ≤ 20 then k + 4 else if k ≤ 24 then k + 82 else if k ≤ 40 then k + 62 else if k = 41 then 5 else if k = 42 then 8 else if k = 43 then 9 else if k = 44 then 10 else if k = 45 then 25 else if k = 46 then 86 else k - 21
theorem zpi_inj : ∀ i, i < 107 → ∀ j, j < 107 → (zpi i == zpi j) = (i == j) := by decide +kernel
theorem zpi_sur : ∀ t, t < 107 → ((List.range 107).any (fun k => zpi k == t)) = true := by decide +kernel
theorem zpi_lt : ∀ k, k < 107 → zpi k < 107 := by decide +kernel
theorem zpi_row : ∀ j, j < 20 → zpi (2 * j + 1) = zr j ∧ zpi (2 * j + 2) = zr j + 1 := by decide +kernel
theorem zr_lt : ∀ j, j < 20 → zr j + 1 < 107 := by decide +kernel
theorem zPs.fin (h : hS b f ao 107) (hF : zFa f ao 107) (hm : f (ao 0) = some (.inr (4, zmain (fun k => ao (zpi k)) 0 0))) : zN b (fun k => ao (zpi k)) f [] [] [] [] 0 := by
  obtain ⟨F1, F2, F3, F4, F5, F6⟩ := hF
  have row : ∀ j, j < 20 → zrow f (fun k => ao (zpi k)) j (zLn j) := by
    intro j hj
    obtain ⟨k1, k2, g, k3, k4⟩ := F1 j hj (zr_lt j hj)
    obtain ⟨p1, p2⟩ := zpi_row j hj
    refine ⟨k1, ?_, g, ?_, k4⟩
    · show f (ao (zpi (2 * j + 1))) = some (.inr (2, [.ref (ao (zpi (2 * j + 2))), _]))
      rw [p1, p2]; exact k2
    · show f (ao (zpi (2 * j + 2))) = _
      rw [p2]; exact k3
  obtain ⟨M1, M2, M3⟩ := F2 (by decide)
  refine ⟨(zLn, fun _ _ => 0, [], 0, 0), ⟨fun i j hi hj e => ?_, fun a ha => h.2.1 a (fun t ht e => ?_), hm, row, ⟨Nat.zero_le _, M1, fun _ => 0, fun _ => 0, M2, M3, fun i hi => absurd hi (Nat.not_lt_zero _)⟩, F3 (by decide), ?_, ?_, fun i hi => ?_⟩, rfl, rfl, rfl, rfl, rfl, rfl, Nat.zero_le _, zB.nil, zB.nil, zB.nil, fun k hk => ?_, rfl, rfl, fun i hi => absurd hi (Nat.not_lt_zero _)⟩
  · have := h.1 _ _ (zpi_lt i hi) (zpi_lt j hj) e
    have k := zpi_inj i hi j hj
    rw [show (zpi i == zpi j) = true by rw [beq_iff_eq]; exact this] at k
    exact beq_iff_eq.mp k.symm
  · have := zpi_sur t ht
    rw [List.any_eq_true] at this
    obtain ⟨k, hk, ek⟩ := this
    rw [List.mem_range] at hk
    rw [beq_iff_eq] at ek
    refine ha k hk ?_
    show a = ao (zpi k)
    rw [ek]; exact e
  · obtain ⟨g, g1, g2⟩ := F5 (by decide)
    refine ⟨g, g1, fun i hi => ?_⟩
    rw [g2 i hi (by omega)]
    show some (ao (26 + i)) = some (ao (zpi (47 + i)))
    have : zpi (47 + i) = 26 + i := by unfold zpi; rw [if_neg (by omega), if_neg (by omega), if_neg (by omega), if_neg (by omega), if_neg (by omega), if_neg (by omega), if_neg (by omega), if_neg (by omega), if_neg (by omega), if_neg (by omega), if_neg (by omega)]; omega
    rw [this]
  · obtain ⟨g, g1, g2⟩ := F6 (by decide)
    refine ⟨g, g1, fun i hi => ?_⟩
    rw [g2 i hi (by omega)]
    show some (ao (87 + 2 * i)) = some (ao (zpi (2 * (12 + i) + 1)))
    have : zpi (2 * (12 + i) + 1) = 87 + 2 * i := by unfold zpi; rw [if_neg (by omega), if_neg (by omega), if_neg (by omega), if_neg (by omega), if_pos (by omega)]; omega
    rw [this]
  · have : zpi (47 + i) = 26 + i := by unfold zpi; rw [if_neg (by omega), if_neg (by omega), if_neg (by omega), if_neg (by omega), if_neg (by omega), if_neg (by omega), if_neg (by omega), if_neg (by omega), if_neg (by omega), if_neg (by omega), if_neg (by omega)]; omega
    show f (ao (zpi (47 + i))) = _
    rw [this]; exact F4 i hi (by omega)
  · show zLn (4 + k) = xbN k
    unfold zLn
    rw [if_pos (by omega), Nat.add_sub_cancel_left]
end NC2
