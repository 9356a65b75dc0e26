/-! fields -/
section YFd
variable {b : xhp} {ad : Nat → Nat} {M : List Nat} {K : List (Nat × Nat)} {y : yS} {f : xhp}
theorem y_fields (h : yM b f ad y) (hM : yMl y M) (hK : yLn y K) (hL : zL M K) {e fr h_ : Nat} (he : e < 60) (hfh : fr ≤ h_) (hh : h_ ≤ K.length) (e28 : y.1 28 e = nI fr) (e30 : y.1 30 e = nI h_) {post : Int32 → xhp → Prop} (hp : post (nI (nfl M K fr h_)) f) : w_Mo_fields post (ad 57) (nI e) f := by
  have hM2 := hM.2.2.1
  have hKl : K.length ≤ 1500 := Nat.le_trans hL.1 hM2
  have ve : vp_in (nI e) 60 := vp_in_nI he (by decide)
  have a28 := h.ai 28 (t := 0) rfl (by decide) (by decide)
  have a30 := h.ai 30 (t := 0) rfl (by decide) (by decide)
  have ob : ∀ l, l < K.length → ∀ t, colL M K l = some t → t < 2 ^ 31 := fun l hl t ht => by have h1 := colL_lt ht; have := hL.f_le l; omega
  have loop : ∀ (n k : Nat), fr + k + n = h_ → w_Mo_fields_9 post (n + 1) (ad 57) (nI e) (nI ((List.range k).filter (nfP M K fr h_)).length) (nI (fr + k)) f := by
    intro n
    induction n with
    | zero =>
      intro k hk
      refine ⟨_, ⟨_, h.2.2.1, rfl⟩, _, _, a30, ve, ?_⟩
      rw [nI_cl e (by omega), e30]
      have ek : k = h_ - fr := by omega
      subst ek
      rw [← nfl_eq]
      exact ⟨fun _ => hp, fun c => absurd (nI_le (by omega) (by omega)) c⟩
    | succ n ih =>
      intro k hk
      have hl3 : fr + k < K.length := by omega
      have hnx := ih (k + 1) (by omega)
      rw [lsH_succ] at hnx
      refine ⟨_, ⟨_, h.2.2.1, rfl⟩, _, _, a30, ve, ?_⟩
      rw [nI_cl e (by omega), e30]
      refine ⟨fun c => absurd c (by rw [nI_leI (by omega) (by omega)]; omega), fun _ => ⟨h.O, y_colon h hM hK hL hl3 ?_⟩⟩
      cases hc : colL M K (fr + k) with
      | none =>
        refine ⟨fun w => absurd rfl w, fun _ => ?_⟩
        rw [if_neg (by unfold nfP; rw [hc]; exact Bool.false_ne_true), List.append_nil] at hnx
        show w_Mo_fields_9 post (n + 1) (ad 57) (nI e) _ (nI (fr + k) + 1) f
        rw [nI_1]; exact hnx
      | some c =>
        have e9 : nfP M K fr h_ k = decide (fl M K (sub M (lf M K (fr + k)) c) fr h_ = some (fr + k)) := by unfold nfP; rw [hc]
        have hfirst := flF_first (h := h_) (l := fr + k) (by omega) (mt_self hL hc) (h_ - fr) fr rfl (by omega)
        -- behind the inner loop
        have f97 : ∀ q : Bool, (q = true ↔ nfP M K fr h_ k = true) → w_Mo_fields_97 post (w_Mo_fields_9 post (n + 1)) (ad 57) (nI e) (nI (fr + k)) (zb q) (nI ((List.range k).filter (nfP M K fr h_)).length) f := by
          intro q hq
          show w_Mo_fields_9 post (n + 1) (ad 57) (nI e) (_ + zb q) (nI (fr + k) + 1) f
          rw [nI_1]
          cases q with
          | false =>
            rw [if_neg (fun w => by have := hq.mpr w; cases this), List.append_nil] at hnx
            show w_Mo_fields_9 post (n + 1) (ad 57) (nI e) (_ + 0) _ f
            rw [Int32.add_zero]; exact hnx
          | true =>
            rw [if_pos (hq.mp rfl), List.length_append] at hnx
            show w_Mo_fields_9 post (n + 1) (ad 57) (nI e) (_ + 1) _ f
            rw [nI_1]; exact hnx
        refine ⟨fun _ => ⟨_, ⟨_, h.2.2.1, rfl⟩, _, _, a28, ve, k + 1, ?_⟩, fun w => absurd ((oI_none (o := some c) (ob (fr + k) hl3 |> fun g t ht => g t (by rw [hc]; exact ht))).mp w) (by simp)⟩
        rw [e28]
        have inn : ∀ (m i : Nat) (ag : Bool), i + m = fr + k → fr ≤ i → (ag = true ↔ ∃ a, fr ≤ a ∧ a < i ∧ mt M K (sub M (lf M K (fr + k)) c) a = true) → w_Mo_fields_42 post (w_Mo_fields_9 post (n + 1)) (m + 1) (ad 57) (nI e) (nI ((List.range k).filter (nfP M K fr h_)).length) (nI (fr + k)) (zb ag) (nI i) f := by
          intro m
          induction m with
          | zero =>
            intro i ag hi hfi hag
            have : i = fr + k := by omega
            subst this
            refine ⟨fun _ => ⟨fun w => f97 true ?_, fun w => f97 false ?_⟩, fun w => absurd (nI_le (Nat.le_refl _) (by omega)) w⟩
            · rw [zb_0] at w
              refine ⟨fun _ => ?_, fun _ => rfl⟩
              rw [e9, decide_eq_true_eq]
              refine hfirst.mpr (fun a h1 h2 => ?_)
              rw [← Bool.not_eq_true]
              intro v
              have := hag.mpr ⟨a, h1, h2, v⟩
              rw [w] at this; cases this
            · rw [zb_n0] at w
              refine ⟨fun v => (by cases v), fun v => ?_⟩
              rw [e9, decide_eq_true_eq] at v
              obtain ⟨a, h1, h2, h3⟩ := hag.mp w
              rw [hfirst.mp v a h1 h2] at h3; cases h3
          | succ m ihm =>
            intro i ag hi hfi hag
            have hi3 : i < K.length := by omega
            have nx : ∀ ag' : Bool, (ag' = true ↔ (ag = true ∨ mt M K (sub M (lf M K (fr + k)) c) i = true)) → w_Mo_fields_78 post (w_Mo_fields_9 post (n + 1)) (w_Mo_fields_42 post (w_Mo_fields_9 post (n + 1)) (m + 1)) (ad 57) (nI e) (nI ((List.range k).filter (nfP M K fr h_)).length) (nI (fr + k)) (nI i) (zb ag') f := by
              intro ag' ha'
              show w_Mo_fields_42 post _ (m + 1) (ad 57) (nI e) _ (nI (fr + k)) (zb ag') (nI i + 1) f
              rw [nI_1]
              refine ihm (i + 1) ag' (by omega) (by omega) ?_
              rw [ha', hag]
              constructor
              · rintro (⟨a, h1, h2, h3⟩ | h3)
                · exact ⟨a, h1, by omega, h3⟩
                · exact ⟨i, hfi, by omega, h3⟩
              · rintro ⟨a, h1, h2, h3⟩
                by_cases q : a = i
                · subst q; exact Or.inr h3
                · exact Or.inl ⟨a, h1, by omega, h3⟩
            refine ⟨fun w => absurd w (by rw [nI_leI (by omega) (by omega)]; omega), fun _ => ⟨fun w => ?_, fun w => ⟨h.O, y_colon h hM hK hL hi3 ?_⟩⟩⟩
            · rw [zb_n0] at w
              exact nx true ⟨fun _ => Or.inl w, fun _ => rfl⟩
            · rw [zb_0] at w
              cases hci : colL M K i with
              | none =>
                refine ⟨fun _ => nx false ⟨fun v => (by cases v), fun v => ?_⟩, fun v => absurd rfl v⟩
                rcases v with v | v
                · rw [w] at v; cases v
                · unfold mt at v
                  rw [hci, decide_eq_false (by simp), Bool.false_and] at v; cases v
              | some ci =>
                refine ⟨fun v => absurd ((oI_none (o := some ci) (ob i hi3 |> fun g t ht => g t (by rw [hci]; exact ht))).mp v) (by simp), fun _ => ⟨h.O, y_isAlike h hM hK hL hi3 hl3 hci hc ⟨fun v => ?_, fun v => ?_⟩⟩⟩
                · rw [zb_0] at v
                  refine nx false ⟨fun x => (by cases x), fun x => ?_⟩
                  rcases x with x | x
                  · rw [w] at x; cases x
                  · rw [v] at x; cases x
                · rw [zb_n0] at v
                  exact nx true ⟨fun _ => Or.inr v, fun _ => rfl⟩
        exact inn k fr false (by omega) (Nat.le_refl _) ⟨fun v => (by cases v), fun ⟨a, h1, h2, _⟩ => by omega⟩
  refine ⟨_, ⟨_, h.2.2.1, rfl⟩, _, _, a28, ve, (h_ - fr) + 1, ?_⟩
  rw [nI_cl e (by omega), e28]
  exact loop (h_ - fr) 0 (by omega)
end YFd
