/-! text, count of the reference -/
theorem fil_get (g : Nat → Bool) {e : Nat} (hg : g e = true) : ∀ n, e < n → ((List.range n).filter g).getD ((List.range e).filter g).length 0 = e ∧ ((List.range e).filter g).length < ((List.range n).filter g).length := by
  intro n
  induction n with
  | zero => intro h; omega
  | succ n ih =>
    intro h
    rw [lsH_succ]
    by_cases q : e = n
    · subst q
      rw [if_pos hg]
      constructor
      · simp [List.getD]
      · simp
    · obtain ⟨a, c⟩ := ih (by omega)
      constructor
      · rw [List.getD_eq_getElem?_getD, List.getElem?_append_left c, ← List.getD_eq_getElem?_getD]
        exact a
      · rw [List.length_append]; omega
theorem fil_mono (g : Nat → Bool) {e : Nat} : ∀ n, e ≤ n → ((List.range e).filter g).length ≤ ((List.range n).filter g).length := by
  intro n
  induction n with
  | zero => intro h; have : e = 0 := by omega
            subst this; exact Nat.le_refl _
  | succ n ih =>
    intro h
    by_cases q : e = n + 1
    · subst q; exact Nat.le_refl _
    · rw [lsH_succ, List.length_append]
      have := ih (by omega)
      omega
section YPt
variable {b : xhp} {ad : Nat → Nat} {f : xhp} {Y P M : List Nat} {R : List eT} {lost : Nat}
/-- which list -/
def gL (M : List Nat) (R : List eT) (g : Int32) (e : Nat) : Bool := if g = 0 then shS M (lns M) R e else aH M (lns M) (R.getD e t0)
theorem gL_eq (hok : ∀ i, i < R.length → tOK M (lns M) R i (R.getD i t0)) (h60 : R.length ≤ 60) (g : Int32) : (if g = 0 then txL M (lns M) R else hgL M (lns M) R) = (List.range R.length).filter (gL M R g) := by
  by_cases c : g = 0
  · rw [if_pos c, txL_sh hok h60]
    apply List.filter_congr
    intro x _
    unfold gL
    rw [if_pos c]
  · rw [if_neg c]
    unfold hgL
    apply List.filter_congr
    intro x _
    unfold gL
    rw [if_neg c]
theorem y_listed {y : yS} {rd : Bool} (h : yM b f ad y) (hc : yNc y rd Y P M R lost) {e : Nat} (he : e < R.length) {g : Int32} {post : Int32 → xhp → Prop} (hp : ∀ f' y', yM b f' ad y' → yNc y' rd Y P M R lost → post (zb (gL M R g e)) f') : w_Mo_isListed post (ad 57) (nI e) g f :=
  y_isListed h hc.1 hc.2.1 hc.2.2.2.2.2.2.2 he (fun q => (sh_mem (fun i hi => (hc.2.1.2.2.2 i hi).1) q).2) (fun f' y' h' k' => hp f' y' h' (hc.kk k'))
theorem y_text (h : yN b ad f Y P M R lost) {g k : Int32} {post : Int32 → xhp → Prop} (hp : ∀ f', yN b ad f' Y P M R lost → post (rget (if g = 0 then txL M (lns M) R else hgL M (lns M) R) k) f') : w_Mo_text post (ad 57) g k f := by
  obtain ⟨y, rd, h, hc⟩ := h
  have h60 := hc.2.1.2.2.1
  rw [gL_eq (fun i hi => (hc.2.1.2.2.2 i hi).1) h60 g] at hp
  have hfl := fil_le (gL M R g) R.length
  by_cases ck : k < 0
  · have hp0 := hp f ⟨y, rd, h, hc⟩
    unfold rget at hp0
    rw [if_pos ck] at hp0
    exact ⟨1, nI R.length, ⟨_, h.2.2.1, by rw [← hc.2.1.1]; rfl⟩, fun _ => hp0, fun _ => ⟨zb rd, ⟨_, h.2.2.1, by rw [← hc.2.2.1]; rfl⟩, fun _ => hp0, fun _ => ⟨fun _ => hp0, fun c => absurd ck c⟩⟩⟩
  · obtain ⟨j, hj, rfl⟩ := nI_of ck
    have e0 : rget ((List.range R.length).filter (gL M R g)) (nI j) = if j < ((List.range R.length).filter (gL M R g)).length then nI (((List.range R.length).filter (gL M R g)).getD j 0) else -1 := by
      unfold rget; rw [if_neg ck, nI_cl j hj]
    rw [e0] at hp
    have loop : ∀ (n e : Nat) (y1 : yS) (f1 : xhp), e + n = R.length → yM b f1 ad y1 → yNc y1 rd Y P M R lost → ((List.range e).filter (gL M R g)).length ≤ j → w_Mo_text_5 post (n + 1) (ad 57) g (nI j) (nI (j - ((List.range e).filter (gL M R g)).length)) (nI e) f1 := by
      intro n
      induction n with
      | zero =>
        intro e y1 f1 he h1 hc1 hle
        have : e = R.length := by omega
        subst this
        refine ⟨nI R.length, ⟨_, h1.2.2.1, by rw [← hc1.2.1.1]; rfl⟩, fun _ => ?_, fun c => absurd (nI_le (Nat.le_refl _) (by omega)) c⟩
        have := hp f1 ⟨y1, rd, h1, hc1⟩
        rw [if_neg (by omega)] at this
        exact this
      | succ n ih =>
        intro e y1 f1 he h1 hc1 hle
        have hel : e < R.length := by omega
        refine ⟨nI R.length, ⟨_, h1.2.2.1, by rw [← hc1.2.1.1]; rfl⟩, fun c => absurd c (by rw [nI_leI (by omega) (by omega)]; omega), fun _ => ⟨zb rd, ⟨_, h1.2.2.1, by rw [← hc1.2.2.1]; rfl⟩, fun c => ?_, fun _ => ⟨fun c => absurd c ck, fun _ => ⟨h1.O, y_listed h1 hc1 hel (fun f3 y3 h3 hc3 => ?_)⟩⟩⟩⟩
        · rw [zb_0] at c
          have := hc1.rl c
          omega
        · have hnx := ih (e + 1) y3 f3 (by omega) h3 hc3
          rw [lsH_succ, List.length_append] at hnx
          refine ⟨fun c => ?_, fun c => ?_⟩
          · rw [zb_n0] at c
            rw [if_pos c] at hnx
            have hnx := fun q => hnx (show _ + 1 ≤ j from q)
            refine ⟨fun c1 => ?_, fun c1 => ?_⟩
            · rw [show (0 : Int32) = nI 0 from rfl, nI_eq (by omega) (by decide)] at c1
              show w_Mo_text_5 post (n + 1) (ad 57) g (nI j) (nI (j - ((List.range e).filter (gL M R g)).length) + (-1)) (nI e + 1) f3
              rw [nI_1, iI_pred]
              have := hnx (by omega)
              rw [show iI (j - ((List.range e).filter (gL M R g)).length) = nI (j - (((List.range e).filter (gL M R g)).length + 1)) by unfold iI; rw [if_neg c1]; congr 1]
              exact this
            · rw [show (0 : Int32) = nI 0 from rfl, nI_eq (by omega) (by decide)] at c1
              have ej : j = ((List.range e).filter (gL M R g)).length := by omega
              obtain ⟨a1, a2⟩ := fil_get (gL M R g) c R.length hel
              have := hp f3 ⟨y3, rd, h3, hc3⟩
              rw [if_pos (by omega), ej, a1] at this
              exact this
          · rw [zb_0] at c
            rw [if_neg (by rw [c]; decide)] at hnx
            show w_Mo_text_5 post (n + 1) (ad 57) g (nI j) (nI (j - ((List.range e).filter (gL M R g)).length)) (nI e + 1) f3
            rw [nI_1]
            exact hnx hle
    exact ⟨R.length + 1, loop R.length 0 y f (by omega) h hc (Nat.zero_le _)⟩
theorem y_count (h : yN b ad f Y P M R lost) {w : Int32} {post : Int32 → xhp → Prop} (hp : ∀ f', yN b ad f' Y P M R lost → post (sCnt M R lost w) f') : w_Mo_count post (ad 57) w f := by
  obtain ⟨y, rd, h, hc⟩ := h
  have h60 := hc.2.1.2.2.1
  have hp0 := hp f ⟨y, rd, h, hc⟩
  refine ⟨fun c => ?_, fun c => ⟨fun c1 => ⟨zb rd, ⟨_, h.2.2.1, by rw [← hc.2.2.1]; rfl⟩, fun c2 => ?_, fun c2 => ?_⟩, fun c1 => ?_⟩⟩
  · unfold sCnt at hp0
    rw [if_neg (fun q => by rw [q] at c; exact absurd c (by decide)), if_neg (fun q => by rw [q] at c; exact absurd c (by decide)), if_neg (fun q => by rw [q] at c; exact absurd c (by decide)), if_neg (fun q => by rw [q] at c; exact absurd c (by decide)), if_neg (fun q => by rw [q] at c; exact absurd c (by decide))] at hp0
    exact hp0
  · -- it is read
    have fin : ∀ (n : Nat) (y1 : yS) (f1 : xhp), yM b f1 ad y1 → yNc y1 rd Y P M R lost → (w = 1 → n = (txL M (lns M) R).length) → (w = 2 → n = (hgL M (lns M) R).length) → w_Mo_count_74 post (ad 57) w (nI n) f1 := by
      intro n y1 f1 h1 hc1 hn1 hn2
      have hp1 := hp f1 ⟨y1, rd, h1, hc1⟩
      unfold sCnt at hp1
      refine ⟨fun d0 => ⟨fun d3 => ⟨fun d4 => ?_, fun d4 => ⟨nI (lns M).length, ⟨_, h1.2.2.1, by rw [← hc1.1.2.1.2]; rfl⟩, ?_⟩⟩, fun d3 => ⟨nI lost, ⟨_, h1.2.2.1, by rw [← hc1.2.1.2.1]; rfl⟩, ?_⟩⟩, fun d0 => ⟨nI R.length, ⟨_, h1.2.2.1, by rw [← hc1.2.1.1]; rfl⟩, ?_⟩⟩
      · rw [if_neg d0] at hp1
        by_cases d1 : w = 1
        · rw [if_pos d1, ← hn1 d1] at hp1; exact hp1
        · rw [if_neg d1] at hp1
          have d2 : w = 2 := by
            obtain ⟨j, hj, rfl⟩ := nI_of c
            rw [show (4 : Int32) = nI 4 from rfl, nI_leI (by omega) (by decide)] at c1
            rw [show (0 : Int32) = nI 0 from rfl, nI_eq (by omega) (by decide)] at d0
            rw [show (1 : Int32) = nI 1 from rfl, nI_eq (by omega) (by decide)] at d1
            rw [show (3 : Int32) = nI 3 from rfl, nI_eq (by omega) (by decide)] at d3
            rw [show (4 : Int32) = nI 4 from rfl, nI_eq (by omega) (by decide)] at d4
            have : j = 2 := by omega
            rw [this]; rfl
          rw [if_pos d2, ← hn2 d2] at hp1; exact hp1
      · subst d4; exact hp1
      · subst d3; exact hp1
      · subst d0; exact hp1
    by_cases d1 : w = 1 ∨ w = 2
    · obtain ⟨g, eg⟩ : ∃ g : Int32, g = if w = 2 then 1 else 0 := ⟨_, rfl⟩
      have hok : ∀ i, i < R.length → tOK M (lns M) R i (R.getD i t0) := fun i hi => (hc.2.1.2.2.2 i hi).1
      have eL := gL_eq hok h60 g
      have loop : ∀ (n e : Nat) (y1 : yS) (f1 : xhp), e + n = R.length → yM b f1 ad y1 → yNc y1 rd Y P M R lost → w_Mo_count_24 post (n + 1) (ad 57) w (nI ((List.range e).filter (gL M R g)).length) (nI e) f1 := by
        intro n
        induction n with
        | zero =>
          intro e y1 f1 he h1 hc1
          have : e = R.length := by omega
          subst this
          refine ⟨nI R.length, ⟨_, h1.2.2.1, by rw [← hc1.2.1.1]; rfl⟩, fun _ => fin _ y1 f1 h1 hc1 (fun q => ?_) (fun q => ?_), fun c => absurd (nI_le (Nat.le_refl _) (by omega)) c⟩
          · rw [← eL, eg, q]; rfl
          · rw [← eL, eg, q]; rfl
        | succ n ih =>
          intro e y1 f1 he h1 hc1
          have hel : e < R.length := by omega
          have k55 : w_Mo_count_55 post (w_Mo_count_24 post (n + 1)) (ad 57) w (nI e) g (nI e) (ad 57) (nI ((List.range e).filter (gL M R g)).length) f1 := by
            refine ⟨h1.O, y_listed h1 hc1 hel (fun f3 y3 h3 hc3 => ?_)⟩
            have hnx := ih (e + 1) y3 f3 (by omega) h3 hc3
            rw [lsH_succ, List.length_append] at hnx
            refine ⟨fun c => ?_, fun c => ?_⟩
            · rw [zb_0] at c
              rw [if_neg (by rw [c]; decide)] at hnx
              show w_Mo_count_24 post (n + 1) (ad 57) w (_ + 0) (nI e + 1) f3
              rw [Int32.add_zero, nI_1]; exact hnx
            · rw [zb_n0] at c
              rw [if_pos c] at hnx
              show w_Mo_count_24 post (n + 1) (ad 57) w (_ + 1) (nI e + 1) f3
              rw [nI_1, nI_1]; exact hnx
          have k42 : w_Mo_count_42 post (w_Mo_count_24 post (n + 1)) (ad 57) w (nI ((List.range e).filter (gL M R g)).length) (nI e) f1 := by
            refine ⟨fun c => ?_, fun c => ?_⟩
            · rw [if_neg c] at eg; rw [eg] at k55 ⊢; exact k55
            · rw [if_pos c] at eg; rw [eg] at k55 ⊢; exact k55
          refine ⟨nI R.length, ⟨_, h1.2.2.1, by rw [← hc1.2.1.1]; rfl⟩, fun c => absurd c (by rw [nI_leI (by omega) (by omega)]; omega), fun _ => ⟨fun _ => k42, fun q => ⟨fun q2 => ?_, fun _ => k42⟩⟩⟩
          rcases d1 with d | d
          · exact absurd d q
          · exact absurd d q2
      exact ⟨R.length + 1, loop R.length 0 y f (by omega) h hc⟩
    · refine ⟨1, nI R.length, ⟨_, h.2.2.1, by rw [← hc.2.1.1]; rfl⟩, fun _ => fin 0 y f h hc (fun q => absurd (Or.inl q) d1) (fun q => absurd (Or.inr q) d1), fun _ => ⟨fun q => absurd (Or.inl q) d1, fun _ => ⟨fun _ => fin 0 y f h hc (fun q => absurd (Or.inl q) d1) (fun q => absurd (Or.inr q) d1), fun q => absurd (Or.inr q) d1⟩⟩⟩
  · -- it is not
    rw [zb_0] at c2
    obtain ⟨q1, q2, q3⟩ := hc.2.2.2.1 c2
    have : sCnt M R lost w = 0 := by
      obtain ⟨j, hj, rfl⟩ := nI_of c
      rw [show (4 : Int32) = nI 4 from rfl, nI_leI (by omega) (by decide)] at c1
      subst q1 q2 q3
      have : j = 0 ∨ j = 1 ∨ j = 2 ∨ j = 3 ∨ j = 4 := by omega
      rcases this with d | d | d | d | d <;> (subst d; decide)
    rw [this] at hp0; exact hp0
  · unfold sCnt at hp0
    rw [if_neg (fun q => by rw [q] at c1; exact absurd (by decide) c1), if_neg (fun q => by rw [q] at c1; exact absurd (by decide) c1), if_neg (fun q => by rw [q] at c1; exact absurd (by decide) c1), if_neg (fun q => by rw [q] at c1; exact absurd (by decide) c1), if_neg (fun q => by rw [q] at c1; exact absurd (by decide) c1)] at hp0
    exact hp0
end YPt
