/-! what a step leaves; the MAIL's bytes and lines; split -/
def yK (as ss : List Nat) (y y' : yS) : Prop := (∀ k, k ∉ as → y'.1 k = y.1 k) ∧ y'.2.1 = y.2.1 ∧ (∀ k, k ∉ ss → y'.2.2.1 k = y.2.2.1 k) ∧ y'.2.2.2 = y.2.2.2
theorem yK.refl {as ss : List Nat} (y : yS) : yK as ss y y := ⟨fun _ _ => rfl, rfl, fun _ _ => rfl, rfl⟩
theorem yK.trans {as ss : List Nat} {y y' y'' : yS} (h : yK as ss y y') (h' : yK as ss y' y'') : yK as ss y y'' :=
  ⟨fun k hk => (h'.1 k hk).trans (h.1 k hk), h'.2.1.trans h.2.1, fun k hk => (h'.2.2.1 k hk).trans (h.2.2.1 k hk), h'.2.2.2.trans h.2.2.2⟩
theorem yK.mono {as ss as' ss' : List Nat} {y y' : yS} (h : yK as ss y y') (h1 : ∀ k, k ∈ as → k ∈ as') (h2 : ∀ k, k ∈ ss → k ∈ ss') : yK as' ss' y y' :=
  ⟨fun k hk => h.1 k (fun q => hk (h1 k q)), h.2.1, fun k hk => h.2.2.1 k (fun q => hk (h2 k q)), h.2.2.2⟩
theorem yK.wa {as ss : List Nat} (y : yS) {k : Nat} (g : Nat → Int32) (hk : k ∈ as) : yK as ss y (va_up y.1 k g, y.2) :=
  ⟨fun j hj => zup_ne _ _ (fun e => hj (e ▸ hk)), rfl, fun _ _ => rfl, rfl⟩
theorem yK.ws {as ss : List Nat} (y : yS) {k : Nat} (v : Int32) (hk : k ∈ ss) : yK as ss y (y.1, y.2.1, va_up y.2.2.1 k v, y.2.2.2) :=
  ⟨fun _ _ => rfl, rfl, fun j hj => zup_ne _ _ (fun e => hj (e ▸ hk)), rfl⟩
/-- an array holds a list of bytes -/
def yB (y : yS) (k : Nat) (L : List Nat) : Prop := ∀ i, i < L.length → y.1 k i = sb (L.getD i 0)
def yMl (y : yS) (M : List Nat) : Prop := yB y 20 M ∧ y.2.2.1 21 = nI M.length ∧ M.length ≤ 1500 ∧ zB M
def yLn (y : yS) (K : List (Nat × Nat)) : Prop := (∀ i, i < K.length → y.1 24 i = nI (K.getD i (0, 0)).1 ∧ y.1 25 i = nI (K.getD i (0, 0)).2) ∧ y.2.2.1 23 = nI K.length
theorem yMl.k {y y' : yS} {M : List Nat} {as ss : List Nat} (h : yMl y M) (hk : yK as ss y y') (h1 : 20 ∉ as) (h2 : 21 ∉ ss) : yMl y' M :=
  ⟨fun i hi => by rw [hk.1 20 h1]; exact h.1 i hi, by rw [hk.2.2.1 21 h2]; exact h.2.1, h.2.2⟩
theorem yLn.k {y y' : yS} {K : List (Nat × Nat)} {as ss : List Nat} (h : yLn y K) (hk : yK as ss y y') (h1 : 24 ∉ as) (h2 : 25 ∉ as) (h3 : 23 ∉ ss) : yLn y' K :=
  ⟨fun i hi => by rw [hk.1 24 h1, hk.1 25 h2]; exact h.1 i hi, by rw [hk.2.2.1 23 h3]; exact h.2⟩
theorem upd_self (g : Nat → Int32) (k : Nat) (v : Int32) : upd g k v k = v := if_pos rfl
theorem upd_ne (g : Nat → Int32) {k j : Nat} (v : Int32) (h : j ≠ k) : upd g k v j = g j := if_neg h
section YS
variable {b : xhp} {ad : Nat → Nat} {M : List Nat}
theorem yLn.app {y : yS} {K : List (Nat × Nat)} {p q : Nat} (h : yLn y K) {y' : yS} (h24 : y'.1 24 = upd (y.1 24) K.length (nI p)) (h25 : y'.1 25 = upd (y.1 25) K.length (nI q)) (h23 : y'.2.2.1 23 = nI (K.length + 1)) : yLn y' (K ++ [(p, q)]) := by
  refine ⟨fun i hi => ?_, by rw [h23]; simp⟩
  simp only [List.length_append, List.length_cons, List.length_nil] at hi
  rw [h24, h25]
  by_cases e : i = K.length
  · subst e
    rw [upd_self, upd_self]
    simp [List.getD]
  · rw [upd_ne _ _ e, upd_ne _ _ e]
    have := h.1 i (by omega)
    simp only [List.getD_eq_getElem?_getD] at this ⊢
    rw [List.getElem?_append_left (by omega)]
    exact this
theorem y_split_out {post : xhp → Prop} (hM2 : M.length ≤ 1500) : ∀ (u p : Nat) (K T : List (Nat × Nat)) (y : yS) (f : xhp), M.length ≤ p + u → yM b f ad y → yMl y M → yLn y K → K.length ≤ p → ((p ≤ M.length ∧ ∃ n, n + p = M.length + 1 ∧ T = tk M n p p) ∨ (p = M.length + 1 ∧ T = [])) → (∀ f' y', yM b f' ad y' → yK [24, 25] [23] y y' → yLn y' (K ++ T) → post f') → w_Mo_split_7 post (u + 1) (ad 57) (nI p) f := by
  intro u
  induction u with
  | zero =>
    intro p K T y f hu h hM hK hKp hT hp
    refine ⟨nI M.length, ⟨_, h.2.2.1, by rw [← hM.2.1]; rfl⟩, fun _ => ?_, fun c => absurd (nI_le (by omega) (by rcases hT with q | q <;> omega)) c⟩
    refine hp f y h (yK.refl y) ?_
    have : T = [] := by
      rcases hT with ⟨q, n, hn, e⟩ | ⟨_, e⟩
      · have : p = M.length := by omega
        subst this
        obtain ⟨m, rfl⟩ : ∃ m, n = m + 1 := ⟨n - 1, by omega⟩
        rw [e]
        show (if _ then _ else _) = _
        rw [if_neg (by omega), if_neg (by omega)]
      · exact e
    rw [this, List.append_nil]; exact hK
  | succ u ih =>
    intro p K T y f hu h hM hK hKp hT hp
    have hM20 := hM.1
    have bM := hM.2.2.2
    refine ⟨nI M.length, ⟨_, h.2.2.1, by rw [← hM.2.1]; rfl⟩, fun c => ?_, fun c => ?_⟩
    · rw [nI_leI (by omega) (by rcases hT with q | q <;> omega)] at c
      refine hp f y h (yK.refl y) ?_
      have : T = [] := by
        rcases hT with ⟨q, n, hn, e⟩ | ⟨_, e⟩
        · have : p = M.length := by omega
          subst this
          obtain ⟨m, rfl⟩ : ∃ m, n = m + 1 := ⟨n - 1, by omega⟩
          rw [e]
          show (if _ then _ else _) = _
          rw [if_neg (by omega), if_neg (by omega)]
        · exact e
      rw [this, List.append_nil]; exact hK
    · rw [nI_leI (by omega) (by rcases hT with q | q <;> omega)] at c
      obtain ⟨q, n, hn, eT⟩ : p ≤ M.length ∧ ∃ n, n + p = M.length + 1 ∧ T = tk M n p p := by
        rcases hT with q | q
        · exact q
        · omega
      refine ⟨(M.length - p) + 1, ?_⟩
      -- the inner loop
      have inn : ∀ (v k n : Nat), M.length ≤ k + v → p ≤ k → k ≤ M.length → n + k = M.length + 1 → T = tk M n p k → w_Mo_split_17 post (w_Mo_split_7 post (u + 1)) (v + 1) (ad 57) (nI p) (nI k) f := by
        intro v
        -- the line ends at k, by t
        have fin : ∀ (k t : Nat) (T' : List (Nat × Nat)), p ≤ t → t ≤ k → k ≤ M.length → T = (p, t) :: T' → (t = if k < M.length ∧ p < k ∧ M.getD (k - 1) 0 = 13 then k - 1 else k) → ((k + 1 ≤ M.length ∧ ∃ n, n + (k + 1) = M.length + 1 ∧ T' = tk M n (k + 1) (k + 1)) ∨ (k + 1 = M.length + 1 ∧ T' = [])) → p ≤ k → w_Mo_split_42 post (w_Mo_split_7 post (u + 1)) (ad 57) (nI p) (nI k) f := by
          intro k t T' hpt htk hk eT' et hT' hpk
          refine ⟨_, ⟨_, h.2.2.1, rfl⟩, nI K.length, ⟨_, h.2.2.1, by rw [← hK.2]; rfl⟩, m_wa h (k := 24) (t := 0) rfl (by decide) (by decide) rfl (by show K.length < 1501; omega) (by omega) (fun f5 h5 => ⟨_, ⟨_, h5.2.2.1, rfl⟩, nI K.length, ⟨_, h5.2.2.1, by rw [← hK.2]; rfl⟩, nI M.length, ⟨_, h5.2.2.1, by rw [← hM.2.1]; rfl⟩, ?_⟩)⟩
          have last : ∀ t', t' = t → w_Mo_split_93 post (w_Mo_split_7 post (u + 1)) (ad 57) (nI k) (nI t') (nI K.length) (ad 25) f5 := by
            intro t' e'
            subst e'
            refine m_wa h5 (k := 25) (t := 0) rfl (by decide) (by decide) rfl (by show K.length < 1501; omega) (by omega) (fun f6 h6 => ⟨nI K.length, ⟨_, h6.2.2.1, by rw [← hK.2]; rfl⟩, m_ws h6 rfl (by decide) (by decide) (by decide) (fun f7 h7 => ?_)⟩)
            rw [nI_1]
            have kk : yK [24, 25] [23] y (va_up (va_up y.1 24 (upd (y.1 24) K.length (nI p))) 25 (upd ((va_up y.1 24 (upd (y.1 24) K.length (nI p))) 25) K.length (nI t')), y.2.1, va_up y.2.2.1 23 (nI K.length + 1), y.2.2.2) := by
              refine ⟨fun j hj => ?_, rfl, fun j hj => ?_, rfl⟩
              · simp only [List.mem_cons, List.not_mem_nil, or_false, not_or] at hj
                dsimp only
                rw [zup_ne _ _ hj.2, zup_ne _ _ hj.1]
              · simp only [List.mem_cons, List.not_mem_nil, or_false] at hj
                dsimp only
                rw [zup_ne _ _ hj]
            have kk2 := hK.app (p := p) (q := t') (y' := (va_up (va_up y.1 24 (upd (y.1 24) K.length (nI p))) 25 (upd ((va_up y.1 24 (upd (y.1 24) K.length (nI p))) 25) K.length (nI t')), y.2.1, va_up y.2.2.1 23 (nI K.length + 1), y.2.2.2)) (by dsimp only; rw [zup_ne _ _ (by decide), zup_self]) (by dsimp only; rw [zup_self, zup_ne _ _ (by decide)]) (by dsimp only; rw [zup_self, nI_1])
            refine ih (k + 1) (K ++ [(p, t')]) T' _ f7 (by omega) h7 (hM.k kk (by decide) (by decide)) kk2 (by simp; omega) hT' (fun f' y' h' hk' hl' => hp f' y' h' (kk.trans hk') ?_)
            rw [eT']
            rw [List.append_assoc] at hl'
            exact hl'
          refine ⟨fun c1 => ?_, fun c1 => ⟨fun c2 => ?_, fun c2 => ⟨_, ⟨_, h5.2.2.1, rfl⟩, _, _, h5.ai 20 (t := 3) rfl (by decide) (by decide), ?_, ?_⟩⟩⟩
          · rw [nI_leI (by omega) (by omega)] at c1
            exact last k (by rw [et, if_neg (by omega)])
          · rw [nI_leI (by omega) (by omega)] at c2
            exact last k (by rw [et, if_neg (by omega)])
          · rw [nI_leI (by omega) (by omega)] at c2
            rw [show (1 : Int32) = nI 1 from rfl, nI_sub' (by omega)]
            exact vp_in_nI (by show k - 1 < 1500; omega) (by decide)
          · rw [nI_leI (by omega) (by omega)] at c1 c2
            rw [show (1 : Int32) = nI 1 from rfl, nI_sub' (by omega), nI_clamp (by omega)]
            dsimp only
            rw [zup_ne _ _ (by decide), hM20 (k - 1) (by omega)]
            have := (sb_ch _ (bM (k - 1))).2.1
            refine ⟨fun c3 => ?_, fun c3 => ?_⟩
            · rw [this] at c3
              exact last k (by rw [et, if_neg (fun q => c3 q.2.2)])
            · rw [this] at c3
              exact last (k - 1) (by rw [et, if_pos ⟨by omega, by omega, c3⟩])
        induction v with
        | zero =>
          intro k n hv hpk hk hn eT
          have : k = M.length := by omega
          subst this
          obtain ⟨m, rfl⟩ : ∃ m, n = m + 1 := ⟨n - 1, by omega⟩
          refine ⟨nI M.length, ⟨_, h.2.2.1, by rw [← hM.2.1]; rfl⟩, fun _ => ?_, fun c => absurd (nI_le (by omega) (by omega)) c⟩
          refine fin M.length M.length [] (by omega) (Nat.le_refl _) (Nat.le_refl _) ?_ (by rw [if_neg (by omega)]) (Or.inr ⟨rfl, rfl⟩) hpk
          rw [eT]
          show (if _ then _ else _) = _
          rw [if_neg (by omega), if_pos (by omega)]
        | succ v ihv =>
          intro k n hv hpk hk hn eT
          obtain ⟨m, rfl⟩ : ∃ m, n = m + 1 := ⟨n - 1, by omega⟩
          refine ⟨nI M.length, ⟨_, h.2.2.1, by rw [← hM.2.1]; rfl⟩, fun c1 => ?_, fun c1 => ⟨_, ⟨_, h.2.2.1, rfl⟩, _, _, h.ai 20 (t := 3) rfl (by decide) (by decide), ?_, ?_⟩⟩
          · rw [nI_leI (by omega) (by omega)] at c1
            have : k = M.length := by omega
            subst this
            refine fin M.length M.length [] (by omega) (Nat.le_refl _) (Nat.le_refl _) ?_ (by rw [if_neg (by omega)]) (Or.inr ⟨rfl, rfl⟩) hpk
            rw [eT]
            show (if _ then _ else _) = _
            rw [if_neg (by omega), if_pos (by omega)]
          · rw [nI_leI (by omega) (by omega)] at c1
            exact vp_in_nI (by show k < 1500; omega) (by decide)
          · rw [nI_leI (by omega) (by omega)] at c1
            have hk2 : k < M.length := by omega
            rw [nI_clamp (by omega), hM20 k hk2]
            have := (sb_ch _ (bM k)).1
            refine ⟨fun c2 => ?_, fun c2 => ?_⟩
            · rw [this] at c2
              refine fin k (if p < k ∧ M.getD (k - 1) 0 = 13 then k - 1 else k) (tk M m (k + 1) (k + 1)) (by split <;> omega) (by split <;> omega) hk ?_ ?_ (Or.inl ⟨by omega, m, by omega, rfl⟩) hpk
              · rw [eT]
                show (if _ then _ else _) = _
                rw [if_pos hk2, if_pos c2]
              · by_cases q : p < k ∧ M.getD (k - 1) 0 = 13
                · rw [if_pos q, if_pos ⟨hk2, q⟩]
                · rw [if_neg q, if_neg (fun q' => q q'.2)]
            · rw [this] at c2
              rw [nI_1]
              refine ihv (k + 1) m (by omega) (by omega) (by omega) (by omega) ?_
              rw [eT]
              show (if _ then _ else _) = _
              rw [if_pos hk2, if_neg c2]
      exact inn (M.length - p) p n (by omega) (Nat.le_refl _) q hn eT
theorem y_split {y : yS} {f : xhp} (h : yM b f ad y) (hM : yMl y M) {post : xhp → Prop} (hp : ∀ f' y', yM b f' ad y' → yK [24, 25] [23] y y' → yLn y' (lns M) → post f') : w_Mo_split post (ad 57) f := by
  refine m_ws h rfl (by decide) (by decide) (by decide) (fun f2 h2 => ⟨M.length + 1, ?_⟩)
  have k2 : yK [24, 25] [23] y (y.1, y.2.1, va_up y.2.2.1 23 0, y.2.2.2) := yK.ws y 0 (by decide)
  refine y_split_out (M := M) hM.2.2.1 M.length 0 [] (lns M) _ f2 (by omega) h2 (hM.k k2 (by decide) (by decide)) ⟨fun i hi => absurd hi (Nat.not_lt_zero _), by dsimp only; rw [zup_self]; rfl⟩ (Nat.le_refl _) (Or.inl ⟨Nat.zero_le _, M.length + 1, rfl, rfl⟩) (fun f' y' h' hk' hl' => hp f' y' h' (k2.trans hk') hl')
end YS
