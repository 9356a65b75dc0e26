/-! colon, isWord, findHead -/
theorem nI_cl (n : Nat) (h : n < 2 ^ 31) : (nI n).toNatClampNeg = n := nI_clamp h
theorem lf_in {M : List Nat} {K : List (Nat × Nat)} {l : Nat} (h : l < K.length) : lf M K l = (K.getD l (0, 0)).1 := if_pos h
theorem lt_in {M : List Nat} {K : List (Nat × Nat)} {l : Nat} (h : l < K.length) : lt M K l = (K.getD l (0, 0)).2 := if_pos h
/-- an empty line has no blank -/
def zLe (M : List Nat) (K : List (Nat × Nat)) : Prop := ∀ l, l < K.length → lf M K l = lt M K l → isBlk (M.getD (lf M K l) 0) = false
theorem tk_e (M : List Nat) : ∀ n s i, s ≤ i → ∀ k, k < (tk M n s i).length → ((tk M n s i).getD k (0, 0)).1 = ((tk M n s i).getD k (0, 0)).2 → isBlk (M.getD ((tk M n s i).getD k (0, 0)).1 0) = false := by
  intro n
  induction n with
  | zero => intro s i _ k hk; exact absurd hk (Nat.not_lt_zero _)
  | succ n ih =>
    intro s i hsi
    by_cases c : i < M.length
    · by_cases c1 : M.getD i 0 = 10
      · have e : tk M (n + 1) s i = (s, if s < i ∧ M.getD (i - 1) 0 = 13 then i - 1 else i) :: tk M n (i + 1) (i + 1) := by
          show (if i < M.length then _ else _) = _
          rw [if_pos c, if_pos c1]
        rw [e]
        intro k hk he
        cases k with
        | zero =>
          show isBlk (M.getD s 0) = false
          have he' : s = if s < i ∧ M.getD (i - 1) 0 = 13 then i - 1 else i := he
          by_cases q : s < i ∧ M.getD (i - 1) 0 = 13
          · rw [if_pos q] at he'
            rw [he', q.2]; rfl
          · rw [if_neg q] at he'
            rw [he', c1]; rfl
        | succ k => exact ih (i + 1) (i + 1) (Nat.le_refl _) k (by simpa using hk) he
      · have e : tk M (n + 1) s i = tk M n s (i + 1) := by
          show (if i < M.length then _ else _) = _
          rw [if_pos c, if_neg c1]
        rw [e]
        exact ih s (i + 1) (by omega)
    · by_cases c1 : s < M.length
      · have e : tk M (n + 1) s i = [(s, M.length)] := by
          show (if i < M.length then _ else _) = _
          rw [if_neg c, if_pos c1]
        rw [e]
        intro k hk he
        simp only [List.length_cons, List.length_nil] at hk
        have : k = 0 := by omega
        subst this
        have he' : s = M.length := he
        omega
      · have e : tk M (n + 1) s i = [] := by
          show (if i < M.length then _ else _) = _
          rw [if_neg c, if_neg c1]
        rw [e]
        intro k hk; exact absurd hk (Nat.not_lt_zero _)
theorem lns_zLe (M : List Nat) : zLe M (lns M) := by
  intro l hl he
  rw [lf_in hl, lt_in hl] at he
  rw [lf_in hl]
  exact tk_e M _ 0 0 (Nat.le_refl _) l hl he
section YC
variable {b : xhp} {ad : Nat → Nat} {M : List Nat} {K : List (Nat × Nat)} {y : yS} {f : xhp}
theorem y_colon_aux (h : yM b f ad y) (hM : yMl y M) (hK : yLn y K) (hL : zL M K) {l : Nat} (hl : l < K.length) {post : Int32 → xhp → Prop} : ∀ n i, lt M K l - i = n → lf M K l ≤ i → i < 2 ^ 30 → post (oI (colF M (lf M K l) (lt M K l) n i)) f → w_Mo_colon_7 post (n + 1) (ad 57) (nI l) (nI i) f := by
  have hM2 := hM.2.2.1
  have hKl : K.length ≤ 1500 := Nat.le_trans hL.1 hM2
  have hle := hL.f_le l
  have e24 : y.1 24 l = nI (lf M K l) := by rw [(hK.1 l hl).1, lf_in hl]
  have e25 : y.1 25 l = nI (lt M K l) := by rw [(hK.1 l hl).2, lt_in hl]
  have a24 := h.ai 24 (t := 0) rfl (by decide) (by decide)
  have a25 := h.ai 25 (t := 0) rfl (by decide) (by decide)
  have a20 := h.ai 20 (t := 3) rfl (by decide) (by decide)
  have vl : vp_in (nI l) 1501 := vp_in_nI (by omega) (by decide)
  have f35 : ∀ i, lf M K l ≤ i → i < 2 ^ 30 → post (oI (if lf M K l < i ∧ i < lt M K l ∧ M.getD i 0 = 58 then some i else none)) f → w_Mo_colon_35 post (ad 57) (nI l) (nI i) f := by
    intro i hi hi2 hp
    refine ⟨_, ⟨_, h.2.2.1, rfl⟩, _, _, a24, vl, ?_⟩
    rw [nI_clamp (by omega), e24]
    refine ⟨fun c => ?_, fun c => ⟨_, ⟨_, h.2.2.1, rfl⟩, _, _, a25, vl, ?_⟩⟩
    · rw [nI_leI (by omega) (by omega)] at c
      rw [if_neg (by omega)] at hp; exact hp
    · rw [nI_leI (by omega) (by omega)] at c
      rw [nI_clamp (by omega), e25]
      refine ⟨fun c1 => ?_, fun c1 => ⟨_, ⟨_, h.2.2.1, rfl⟩, _, _, a20, ?_, ?_⟩⟩
      · rw [nI_leI (by omega) (by omega)] at c1
        rw [if_neg (by omega)] at hp; exact hp
      · rw [nI_leI (by omega) (by omega)] at c1
        exact vp_in_nI (by show i < 1500; omega) (by decide)
      · rw [nI_leI (by omega) (by omega)] at c1
        rw [hM.1 i (by omega)]
        have := (sb_ch _ (hM.2.2.2 i)).2.2.1
        refine ⟨fun c2 => ?_, fun c2 => ?_⟩
        · rw [this] at c2
          rw [if_neg (fun q => c2 q.2.2)] at hp; exact hp
        · rw [this] at c2
          rw [if_pos ⟨by omega, by omega, c2⟩] at hp; exact hp
  intro n
  induction n with
  | zero =>
    intro i hn hi hi2 hp
    refine ⟨_, ⟨_, h.2.2.1, rfl⟩, _, _, a25, vl, ?_⟩
    rw [nI_clamp (by omega), e25]
    refine ⟨fun _ => f35 i hi hi2 (by rw [if_neg (by omega)]; exact hp), fun c => absurd (nI_le (by omega) (by omega)) c⟩
  | succ n ih =>
    intro i hn hi hi2 hp
    have hlt : i < lt M K l := by omega
    have e : colF M (lf M K l) (lt M K l) (n + 1) i = if M.getD i 0 = 58 then (if lf M K l < i then some i else none) else if isNm (M.getD i 0) = true then colF M (lf M K l) (lt M K l) n (i + 1) else none := by
      show (if _ then _ else _) = _
      rw [if_pos hlt]
    rw [e] at hp
    refine ⟨_, ⟨_, h.2.2.1, rfl⟩, _, _, a25, vl, ?_⟩
    rw [nI_clamp (by omega), e25]
    refine ⟨fun c => absurd c (by rw [nI_leI (by omega) (by omega)]; omega), fun _ => ⟨_, ⟨_, h.2.2.1, rfl⟩, _, _, a20, vp_in_nI (by show i < 1500; omega) (by decide), ?_⟩⟩
    rw [nI_clamp (by omega), hM.1 i (by omega)]
    refine y_name (hM.2.2.2 i) ⟨fun c => ?_, fun c => ?_⟩
    · rw [zb_0] at c
      refine f35 i hi hi2 ?_
      by_cases q : M.getD i 0 = 58
      · rw [if_pos q] at hp
        by_cases q2 : lf M K l < i
        · rw [if_pos q2] at hp
          rw [if_pos ⟨q2, hlt, q⟩]; exact hp
        · rw [if_neg q2] at hp
          rw [if_neg (fun w => q2 w.1)]; exact hp
      · rw [if_neg q, if_neg (by rw [c]; decide)] at hp
        rw [if_neg (fun w => q w.2.2)]; exact hp
    · rw [zb_n0] at c
      rw [nI_1]
      refine ih (i + 1) (by omega) (by omega) (by omega) ?_
      rw [if_neg (fun q => by rw [q] at c; exact absurd c (by decide)), if_pos c] at hp
      exact hp
theorem y_colon (h : yM b f ad y) (hM : yMl y M) (hK : yLn y K) (hL : zL M K) {l : Nat} (hl : l < K.length) {post : Int32 → xhp → Prop} (hp : post (oI (colL M K l)) f) : w_Mo_colon post (ad 57) (nI l) f := by
  have hM2 := hM.2.2.1
  have hKl : K.length ≤ 1500 := Nat.le_trans hL.1 hM2
  have hle := hL.f_le l
  refine ⟨_, ⟨_, h.2.2.1, rfl⟩, _, _, h.ai 24 (t := 0) rfl (by decide) (by decide), vp_in_nI (by show l < 1501; omega) (by decide), (lt M K l - lf M K l) + 1, ?_⟩
  rw [nI_clamp (by omega), (hK.1 l hl).1, ← lf_in (M := M) hl]
  exact y_colon_aux h hM hK hL hl _ _ rfl (Nat.le_refl _) (by omega) hp
/-- a word's array: small letters -/
def yWd (y : yS) (k : Nat) (N : List Nat) : Prop := ytg k = 0 ∧ k ≠ 35 ∧ N.length ≤ yln k ∧ zB N ∧ N.length ≤ 1500 ∧ ∀ i, i < N.length → y.1 k i = sb (low (N.getD i 0))
theorem yln_le (k : Nat) : yln k < 2 ^ 31 := by
  unfold yln
  have key : ∀ x ∈ ([12, 25, 19, 8, 8, 4, 10, 9, 5, 10, 16, 21, 14, 10, 4, 4, 6, 20, 1500, 0, 1500, 0, 0, 0, 1501, 1501, 0, 0, 60, 60, 60, 60, 60, 60, 60, 60, 0, 0, 0, 420, 420, 420, 0, 400, 400, 1500, 0, 0, 0, 0, 1510, 1510, 1500, 0, 1500, 0, 1500] : List Nat), x < 2 ^ 31 := by decide
  by_cases c : k < 57
  · rw [List.getD_eq_getElem?_getD, List.getElem?_eq_getElem (by simpa using c)]
    exact key _ (List.getElem_mem _)
  · rw [List.getD_eq_getElem?_getD, List.getElem?_eq_none (by simp only [List.length_cons, List.length_nil]; omega)]
    decide
theorem y_isWord_aux (h : yM b f ad y) {ka kw : Nat} (ha : ytg ka = 3) (h35 : ka ≠ 35) {L N : List Nat} (hL : yB y ka L) (bL : zB L) (hLa : L.length ≤ yln ka) (hL2 : L.length ≤ 1500) (hN : yWd y kw N) {s : Nat} (hs : s + N.length ≤ L.length) {post : Int32 → xhp → Prop} : ∀ n k, k + n = N.length → post (zb (hasNmF L N s n k)) f → w_Mo_isWord_13 post (n + 1) (ad ka) (nI s) (ad kw) (nI N.length) (nI k) f := by
  obtain ⟨w1, w2, w3, w4, w5, w6⟩ := hN
  intro n
  induction n with
  | zero =>
    intro k hk hp
    exact ⟨fun _ => ⟨Or.inr rfl, hp⟩, fun c => absurd (nI_le (by omega) (by omega)) c⟩
  | succ n ih =>
    intro k hk hp
    have := yln_le ka
    have := yln_le kw
    refine ⟨fun c => absurd c (by rw [nI_leI (by omega) (by omega)]; omega), fun _ => ⟨_, _, h.ai ka ha (by decide) h35, ?_, ?_⟩⟩
    · rw [nI_add]; exact vp_in_nI (by omega) (by omega)
    · rw [nI_add, nI_cl (s + k) (by omega), hL (s + k) (by omega)]
      refine y_small (bL _) ⟨_, _, h.ai kw w1 (by decide) w2, vp_in_nI (by omega) (by omega), ?_⟩
      rw [nI_cl k (by omega), w6 k (by omega), sb_eq (low_lt (bL _)) (low_lt (w4 _))]
      have e : hasNmF L N s (n + 1) k = if s + k < L.length ∧ low (L.getD (s + k) 0) = low (N.getD k 0) then hasNmF L N s n (k + 1) else false := rfl
      rw [e] at hp
      refine ⟨fun c => ?_, fun c => ?_⟩
      · rw [if_pos ⟨by omega, c⟩] at hp
        rw [nI_1]; exact ih (k + 1) (by omega) hp
      · rw [if_neg (fun q => c q.2)] at hp; exact ⟨Or.inl rfl, hp⟩
theorem y_isWord (h : yM b f ad y) {ka kw : Nat} (ha : ytg ka = 3) (h35 : ka ≠ 35) {L N : List Nat} (hL : yB y ka L) (bL : zB L) (hLa : L.length ≤ yln ka) (hL2 : L.length ≤ 1500) (hN : yWd y kw N) {s e : Nat} (hse : s ≤ e) (he : e ≤ L.length) {post : Int32 → xhp → Prop} (hp : post (zb (decide (e - s = N.length) && hasNm L N s)) f) : w_Mo_isWord post (ad ka) (nI s) (nI e) (ad kw) (nI N.length) f := by
  have w5 := hN.2.2.2.2.1
  have e0 : nI e - nI s = nI N.length ↔ e - s = N.length := by rw [nI_sub' hse, nI_eq (by omega) (by omega)]
  refine ⟨fun c => ⟨N.length + 1, ?_⟩, fun c => ?_⟩
  · rw [e0] at c
    rw [decide_eq_true c, Bool.true_and] at hp
    exact y_isWord_aux h ha h35 hL bL hLa hL2 hN (by omega) N.length 0 (by omega) hp
  · rw [e0] at c
    rw [decide_eq_false c, Bool.false_and] at hp
    exact ⟨Or.inl rfl, hp⟩
end YC
