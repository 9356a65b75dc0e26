/-! what stays for the whole law -/
theorem lt_sr : ∀ q ∈ xstr, Cond.stringRef q.1 q.2.1 q.2.2.1 ∈ lw_tbl ∧ q.2.2.2 < 17 ∧ lwTm q.2.2.2 = Term.string q.1 q.2.1 := by decide +kernel
theorem lt_len : ∀ i, i < 17 → xlenS.getD i 0 < 2 ^ 31 := by decide +kernel
theorem law_ao {s : State} {C : String} (h : va_AO C s) : ∃ cA, ArrOfT s cA (.object C) ∧ va_RA s cA (.object C) := by
  obtain ⟨comp, c, k, h1, h2, h3, h4, h5⟩ := Cond.arrayOver_spec h
  exact ⟨c, fun N z => ⟨(fun k h => by cases h), k, h3, comp, h4⟩, ⟨k, comp, h3, h4, h1, h5⟩⟩
theorem law_K {s : State} {b : Nat} (hts : ∀ w ∈ lw_tbl, w.before #[Value.ref b] s = true) (hg : (Jvm.Cond.and given_1 narrow_1).before #[Value.ref b] s = true) : ∃ G : xG, xK G (xA (fun _ => none) s.heap.size) s s.heap := by
  have hf : ∀ c ∈ lwFl, c.before #[Value.ref b] s = true := flat_of_before _ hg
  have hA : ∀ a : Nat, a < s.heap.size → ¬ xA (fun _ => none) s.heap.size a := fun a ha h => by
    rcases h with h | h
    · cases h
    · omega
  have hWd : xWd s := fun w hw h1 h2 a => va_any h1 (hts w hw)
  have hao1 : va_AO "MailParts$Row" s := va_AO.of (hts _ kw_206)
  have hao2 : va_AO "MailParts$Entity" s := va_AO.of (hts _ kw_147)
  have hWa : xWa s := ⟨fun ty ht a => by
    simp only [List.mem_cons, List.mem_nil_iff, or_false] at ht
    rcases ht with h | h | h <;> subst h
    · exact hts _ kw_39
    · exact hts _ kw_205
    · exact hts _ kw_701, hao1, hao2⟩
  obtain ⟨c0, i0, k0⟩ := u_known hts (fun w hw => (i_En w hw).1) (hts _ kw_148)
  obtain ⟨c1, i1, k1⟩ := u_known hts (fun w hw => (i_Ma w hw).1) (hts _ kw_41)
  obtain ⟨c2, i2, k2⟩ := u_known hts (fun w hw => (i_Ro w hw).1) (hts _ kw_21)
  obtain ⟨c3, i3, k3⟩ := u_known hts (fun w hw => (i_Va w hw).1) (hts _ kw_64)
  obtain ⟨c4, i4, k4⟩ := u_known hts (fun w hw => (i_Mp w hw).1) (hts _ kw_13)
  obtain ⟨c5, i5, k5⟩ := u_known hts (fun w hw => (i_Mo w hw).1) (hts _ kw_524)
  obtain ⟨a0, x0, comp0, u0, v0, w0⟩ := Cond.arrayClass_spec (hts _ kw_39)
  obtain ⟨a1, r1, q1⟩ := law_ao hao1
  obtain ⟨a2, r2, q2⟩ := law_ao hao2
  obtain ⟨a3, x3, comp3, u3, v3, w3⟩ := Cond.arrayClass_spec (hts _ kw_205)
  obtain ⟨a4, x4, comp4, u4, v4, w4⟩ := Cond.arrayClass_spec (hts _ kw_701)
  obtain ⟨adK, adV, hS, hev⟩ := vk_Sof (args := #[Value.ref b]) (s := s) (N := xnS) (tm := lwTm) (len := xlenS) (byt := xbytS) (A := xA (fun _ => none) s.heap.size) lt_len (fun i hi => hf _ (List.mem_of_getElem? (lt_h4 i hi).1)) (fun i hi => hf _ (List.mem_of_getElem? (lt_h4 i hi).2.1)) (fun i hi => hf _ (List.mem_of_getElem? (lt_h4 i hi).2.2.1)) (fun i hi => hf _ (List.mem_of_getElem? (lt_h4 i hi).2.2.2)) (fun i hi j hj => hf _ (List.mem_of_getElem? (lt_el i hi j hj))) (fun i j hi hj hij => by
    by_cases c : j < i
    · exact Or.inr (hf _ (List.mem_of_getElem? (lt_ne i hi j c)))
    · exact Or.inl (hf _ (List.mem_of_getElem? (lt_ne j hj i (by omega))))) hA
  refine ⟨((fun c => [c0, c1, c2, c3, c4, c5].getD c c0, fun c => [i0, i1, i2, i3, i4, i5].getD c i0), fun t => [a0, a1, a2, a3, a4].getD t a0, adK, adV), hWd, hWa, ⟨fun c q hq => ?_, fun k q hq => ?_⟩, hS, fun q hq => ?_, va_Zof (hts _ kw_89) (hts _ kw_6) (va_eqt (hf _ lt_cs)) hA, va_Zqof (hts _ kw_114) (hts _ kw_8) (hf _ lt_si) hA⟩
  · match c, hq with
    | 0, hq => cases hq; exact k0
    | 1, hq => cases hq; exact k1
    | 2, hq => cases hq; exact k2
    | 3, hq => cases hq; exact k3
    | 4, hq => cases hq; exact k4
    | 5, hq => cases hq; exact k5
    | n + 6, hq => simp [vwCl] at hq
  · match k, hq with
    | 0, hq => cases hq; exact ⟨fun n z => ⟨fun k h => (by cases h), x0, v0, comp0, w0⟩, u0⟩
    | 1, hq => cases hq; exact ⟨r1, q1⟩
    | 2, hq => cases hq; exact ⟨r2, q2⟩
    | 3, hq => cases hq; exact ⟨fun n z => ⟨fun k h => (by cases h), x3, v3, comp3, w3⟩, u3⟩
    | 4, hq => cases hq; exact ⟨fun n z => ⟨fun k h => (by cases h), x4, v4, comp4, w4⟩, u4⟩
    | n + 5, hq => simp [xTY] at hq
  · obtain ⟨z1, z2, z3⟩ := lt_sr q hq
    refine vk_R.of (hts _ z1) ?_
    rw [← z3]
    exact hev _ z2
