/-! the reference's sets keep to it; the lists are one -/
section FD
variable {M : List Nat} {K : List (Nat × Nat)} {R : List eT}
theorem fdR_ge : ∀ m s p, m ≤ p → fdR M K R m s p = s p := by
  intro m
  induction m with
  | zero => intro s p _; rfl
  | succ m ih =>
    intro s p h
    show fdR M K R m (va_up s m (nwS M K R s m)) p = _
    rw [ih _ p (by omega), zup_ne _ _ (by omega)]
theorem fdR_lt : ∀ m s p, p < m → ∃ s', (∀ c, p < c → s' c = fdR M K R m s c) ∧ fdR M K R m s p = nwS M K R s' p := by
  intro m
  induction m with
  | zero => intro s p h; omega
  | succ m ih =>
    intro s p h
    have e : fdR M K R (m + 1) s = fdR M K R m (va_up s m (nwS M K R s m)) := rfl
    by_cases q : p = m
    · subst q
      refine ⟨s, fun c hc => ?_, ?_⟩
      · rw [e, fdR_ge _ _ _ (by omega), zup_ne _ _ (by omega)]
      · rw [e, fdR_ge _ _ _ (Nat.le_refl _), zup_self]
    · rw [e]; exact ih _ p (by omega)
theorem orS_iff {s : Nat → Nat → Bool} {e : Nat} : ∀ k c x, orS R s e k c x = true ↔ ∃ j, c ≤ j ∧ j < c + k ∧ pr R j = e + 1 ∧ s j x = true := by
  intro k
  induction k with
  | zero => intro c x; exact ⟨fun h => (by cases h), fun ⟨j, h1, h2, _⟩ => (by omega)⟩
  | succ k ih =>
    intro c x
    have e1 : orS R s e (k + 1) c x = ((if pr R c = e + 1 then s c x else false) || orS R s e k (c + 1) x) := rfl
    rw [e1, Bool.or_eq_true, ih]
    constructor
    · rintro (h | ⟨j, h1, h2, h3⟩)
      · by_cases q : pr R c = e + 1
        · rw [if_pos q] at h; exact ⟨c, Nat.le_refl _, by omega, q, h⟩
        · rw [if_neg q] at h; cases h
      · exact ⟨j, by omega, by omega, h3⟩
    · rintro ⟨j, h1, h2, h3, h4⟩
      by_cases q : j = c
      · subst q; left; rw [if_pos h3]; exact h4
      · exact Or.inr ⟨j, by omega, by omega, h3, h4⟩
theorem x_alt : xbN 11 ≠ xbN 6 ∧ pfx (xbN 11) (xbN 8) = false := by decide +kernel
theorem al_nO {t : eT} (h : aA M K t = true) : aO M K t = false := by
  have e : typ M K t.2.2.1 (tH M K t) t.2.2.2.2 = xbN 11 := isW_eq h
  unfold aO aX txH
  rw [e, x_alt.2, Bool.false_and, Bool.and_false]
theorem al_k1 {t : eT} (h : aA M K t = true) (hk : tK M K t ≠ 0) : tK M K t = 1 := by
  have e : typ M K t.2.2.1 (tH M K t) t.2.2.2.2 = xbN 11 := isW_eq h
  have e2 : tK M K t = if t.2.1 < 8 then (if muH M K t.2.2.1 (tH M K t) t.2.2.2.2 = true then 1 else if ecH M K t.2.2.1 (tH M K t) t.2.2.2.2 = true then 2 else 0) else 0 := kdH_eq M K t.2.2.1 (tH M K t) t.2.1 t.2.2.2.2
  have hec : ecH M K t.2.2.1 (tH M K t) t.2.2.2.2 = false := by
    rw [← Bool.not_eq_true]
    intro w
    unfold ecH at w
    rw [Bool.and_eq_true] at w
    have := isW_eq w.1
    rw [e] at this
    exact x_alt.1 this
  rw [hec] at e2
  by_cases c1 : t.2.1 < 8
  · rw [if_pos c1] at e2
    by_cases c2 : muH M K t.2.2.1 (tH M K t) t.2.2.2.2 = true
    · rw [if_pos c2] at e2; exact e2
    · rw [if_neg c2, if_neg (by decide)] at e2; exact absurd e2 hk
  · rw [if_neg c1] at e2; exact absurd e2 hk
theorem fd_mem (hok : ∀ i, i < R.length → tOK M K R i (R.getD i t0)) : ∀ d p, R.length ≤ p + d → ∀ x, fdR M K R R.length (fun _ _ => false) p x = true → p ≤ x ∧ x < R.length ∧ aO M K (R.getD x t0) = true := by
  intro d
  induction d with
  | zero => intro p hp x hx; rw [fdR_ge _ _ _ (by omega)] at hx; cases hx
  | succ d ih =>
    intro p hp x hx
    by_cases hpl : R.length ≤ p
    · rw [fdR_ge _ _ _ hpl] at hx; cases hx
    obtain ⟨s, hs, e⟩ := fdR_lt R.length (fun _ _ => false) p (show p < R.length by omega) (M := M) (K := K) (R := R)
    rw [e] at hx
    unfold nwS at hx
    by_cases c : tK M K (R.getD p t0) = 1 ∧ aA M K (R.getD p t0) = true
    · rw [if_pos c, pick_lst] at hx
      have key : ∀ o, (∀ j, o = some j → p < j) → oS s o x = true → p ≤ x ∧ x < R.length ∧ aO M K (R.getD x t0) = true := by
        intro o ho h
        cases o with
        | none => cases h
        | some j =>
          have hj := ho j rfl
          have h : s j x = true := h
          rw [hs j hj] at h
          have := ih j (by omega) x h
          exact ⟨by omega, this.2⟩
      refine key _ (fun j hj => ?_) hx
      rw [Option.or_eq_some_iff] at hj
      rcases hj with hj | ⟨_, hj⟩
      · have := lst_some _ _ _ hj; omega
      · have := lst_some _ _ _ hj; omega
    · rw [if_neg c, Bool.or_eq_true, Bool.and_eq_true, decide_eq_true_eq, orS_iff] at hx
      rcases hx with ⟨h1, h2⟩ | ⟨j, h1, h2, h3, h4⟩
      · subst h2; exact ⟨Nat.le_refl _, by omega, h1⟩
      · rw [hs j (by omega)] at h4
        have := ih j (by omega) x h4
        exact ⟨by omega, this.2⟩
theorem fd_tX (hok : ∀ i, i < R.length → tOK M K R i (R.getD i t0)) (h60 : R.length ≤ 60) : tX R (fun i => aA M K (R.getD i t0)) (fun i => aO M K (R.getD i t0)) (fun i => aM M K (R.getD i t0)) (fdR M K R R.length (fun _ _ => false)) := by
  obtain ⟨S, eS⟩ : ∃ S, S = fdR M K R R.length (fun _ _ => false) := ⟨_, rfl⟩
  have hmem : ∀ p x, S p x = true → p ≤ x ∧ x < R.length ∧ aO M K (R.getD x t0) = true := fun p x h => by rw [eS] at h; exact fd_mem hok R.length p (by omega) x h
  have hprs : ∀ c, c < R.length → pr R c ≤ c := fun c hc => (hok c hc).1
  rw [← eS]
  refine ⟨fun p hp ha x => ?_, fun p hp ha => ?_, fun p ha => al_nO ha, hprs, fun c x h => by have := hmem c x h; omega⟩
  · obtain ⟨s, hs, e⟩ := fdR_lt R.length (fun _ _ => false) p hp (M := M) (K := K) (R := R)
    rw [← eS] at e hs
    rw [e]
    unfold nwS
    dsimp only at ha
    rw [if_neg (by intro w; rw [ha] at w; cases w.2), Bool.or_eq_true, Bool.and_eq_true, decide_eq_true_eq, orS_iff]
    constructor
    · rintro (h | ⟨j, h1, h2, h3, h4⟩)
      · exact Or.inl h
      · exact Or.inr ⟨j, by omega, h3, by rw [← hs j (by omega)]; exact h4⟩
    · rintro (h | ⟨c, h1, h2, h3⟩)
      · exact Or.inl h
      · have := hprs c h1
        exact Or.inr ⟨c, by omega, by omega, h2, by rw [hs c (by omega)]; exact h3⟩
  · obtain ⟨s, hs, e⟩ := fdR_lt R.length (fun _ _ => false) p hp (M := M) (K := K) (R := R)
    rw [← eS] at e hs
    have sk1 : ∀ Q : Nat → Bool, (∀ j, Q j = true → j < R.length → p < j) → lst Q R.length 0 = lst Q (R.length - (p + 1)) (p + 1) := by
      intro Q hQ
      have := lst_skip (Q := Q) (k := R.length - (p + 1)) (p + 1) 0 (fun j _ h2 => by
        rw [← Bool.not_eq_true]
        intro w
        have := hQ j w (by omega)
        omega)
      rw [show p + 1 + (R.length - (p + 1)) = R.length by omega, Nat.zero_add] at this
      exact this
    have g1 : ∀ j, q1 R S p j = true → j < R.length → p < j := by
      intro j h hj
      unfold q1 at h
      rw [Bool.and_eq_true, decide_eq_true_eq] at h
      have := hprs j hj
      omega
    rw [sk1 _ g1, sk1 (q2 R (fun i => aM M K (R.getD i t0)) S p) (fun j h hj => g1 j (by unfold q2 at h; rw [Bool.and_eq_true] at h; exact h.1) hj)]
    have ha : aA M K (R.getD p t0) = true := ha
    by_cases c : tK M K (R.getD p t0) = 1
    · rw [e]
      unfold nwS
      rw [if_pos ⟨c, ha⟩, pick_lst]
      have c1 : lst (q1 R s p) (R.length - (p + 1)) (p + 1) = lst (q1 R S p) (R.length - (p + 1)) (p + 1) := by
        refine lst_congr _ _ (fun j h1 h2 => ?_)
        unfold q1
        rw [hs j (by omega)]
      have c2 : lst (q2 R (hmF M K R p) s p) (R.length - (p + 1)) (p + 1) = lst (q2 R (fun i => aM M K (R.getD i t0)) S p) (R.length - (p + 1)) (p + 1) := by
        refine lst_congr _ _ (fun j h1 h2 => ?_)
        unfold q2 q1
        rw [hs j (by omega)]
        have : (fun x => S j x && hmF M K R p x) = (fun x => S j x && aM M K (R.getD x t0)) := by
          funext x
          cases w : S j x with
          | false => rfl
          | true =>
            have := hmem j x w
            unfold hmF
            rw [decide_eq_true (by omega), Bool.true_and]
        rw [this]
      rw [c1, c2]
      have key : ∀ o, (∀ j, o = some j → p < j) → oS s o = oS S o := by
        intro o ho
        cases o with
        | none => rfl
        | some j => exact hs j (ho j rfl)
      refine key _ (fun j hj => ?_)
      rw [Option.or_eq_some_iff] at hj
      rcases hj with hj | ⟨_, hj⟩
      · have := lst_some _ _ _ hj; omega
      · have := lst_some _ _ _ hj; omega
    · have nch : ∀ j, j < R.length → pr R j ≠ p + 1 := by
        intro j hj w
        have ok := hok j hj
        have o1 := ok.2.2.2.2 (show 0 < pr R j by omega)
        have : (R.getD j t0).1 - 1 = p := by show pr R j - 1 = p; omega
        rw [this] at o1
        exact c (al_k1 ha o1.2.2)
      have z1 : lst (q1 R S p) (R.length - (p + 1)) (p + 1) = none := by
        cases l : lst (q1 R S p) (R.length - (p + 1)) (p + 1) with
        | none => rfl
        | some j =>
          have h := lst_some _ _ _ l
          have hq := h.2.2
          unfold q1 at hq
          rw [Bool.and_eq_true, decide_eq_true_eq] at hq
          exact absurd hq.1 (nch j (by omega))
      have z2 : lst (q2 R (fun i => aM M K (R.getD i t0)) S p) (R.length - (p + 1)) (p + 1) = none := by
        cases l : lst (q2 R (fun i => aM M K (R.getD i t0)) S p) (R.length - (p + 1)) (p + 1) with
        | none => rfl
        | some j =>
          have h := lst_some _ _ _ l
          have hq := h.2.2
          unfold q2 q1 at hq
          rw [Bool.and_eq_true, Bool.and_eq_true, decide_eq_true_eq] at hq
          exact absurd hq.1.1 (nch j (by omega))
      rw [z1, z2, e]
      show _ = fun _ => false
      funext x
      unfold nwS
      rw [if_neg (fun w => c w.1), al_nO ha, Bool.false_and, Bool.false_or]
      rw [← Bool.not_eq_true, orS_iff]
      rintro ⟨j, h1, h2, h3, h4⟩
      exact nch j (by omega) h3
/-- one list of texts -/
theorem sh_mem (hok : ∀ i, i < R.length → tOK M K R i (R.getD i t0)) {x : Nat} (h : shS M K R x = true) : x < R.length ∧ aO M K (R.getD x t0) = true := (fd_mem hok R.length 0 (by omega) x h).2
theorem txL_sh (hok : ∀ i, i < R.length → tOK M K R i (R.getD i t0)) (h60 : R.length ≤ 60) : txL M K R = (List.range R.length).filter (shS M K R) := by
  have hX := fd_tX hok h60
  have hI := tI_all hX R.length _ (Nat.le_refl _) (tI_first hX)
  obtain ⟨S, eS⟩ : ∃ S, S = fdR M K R R.length (fun _ _ => false) := ⟨_, rfl⟩
  have esh : ∀ x, shS M K R x = S 0 x := fun x => by rw [eS]; rfl
  have hmem : ∀ p x, S p x = true → p ≤ x ∧ x < R.length ∧ aO M K (R.getD x t0) = true := fun p x h => by rw [eS] at h; exact fd_mem hok R.length p (by omega) x h
  rw [← eS] at hX hI
  have hI : tI R (fun i => aA M K (R.getD i t0)) (fun i => aO M K (R.getD i t0)) (fun i => aM M K (R.getD i t0)) S 0 (cS M K R) := hI
  have hprs : ∀ c, c < R.length → pr R c ≤ c := fun c hc => (hok c hc).1
  obtain ⟨C, eC⟩ : ∃ C, C = (cS M K R).2.2 := ⟨_, rfl⟩
  -- what comes up from a child
  have st : ∀ p x, p < R.length → (S p x = true ↔ (aO M K (R.getD p t0) = true ∧ x = p) ∨ ∃ c, c < R.length ∧ pr R c = p + 1 ∧ (aA M K (R.getD p t0) = false ∨ C p = c + 1) ∧ S c x = true) := by
    intro p x hp
    by_cases ha : aA M K (R.getD p t0) = true
    · rw [hX.2.1 p hp ha]
      obtain ⟨_, _, i3⟩ := hI.2 p hp ha
      rw [Nat.sub_zero] at i3
      rw [← eC] at i3
      rw [i3, al_nO ha]
      have key : ∀ o, (∀ j, o = some j → j < R.length ∧ pr R j = p + 1) → (oS S o x = true ↔ (false = true ∧ x = p) ∨ ∃ c, c < R.length ∧ pr R c = p + 1 ∧ (aA M K (R.getD p t0) = false ∨ nO o = c + 1) ∧ S c x = true) := by
        intro o ho
        cases o with
        | none =>
          constructor
          · intro h; cases h
          · rintro (h | ⟨c, _, _, h, _⟩)
            · cases h.1
            · rcases h with h | h
              · rw [ha] at h; cases h
              · cases h
        | some j =>
          constructor
          · intro h; exact Or.inr ⟨j, (ho j rfl).1, (ho j rfl).2, Or.inr rfl, h⟩
          · rintro (h | ⟨c, _, _, h, h2⟩)
            · cases h.1
            · rcases h with h | h
              · rw [ha] at h; cases h
              · have : j + 1 = c + 1 := h
                have : j = c := by omega
                subst this; exact h2
      refine key _ (fun j hj => ?_)
      have q1j : ∀ j, q1 R S p j = true → pr R j = p + 1 := fun j h => by
        unfold q1 at h; rw [Bool.and_eq_true, decide_eq_true_eq] at h; exact h.1
      rw [Option.or_eq_some_iff] at hj
      rcases hj with hj | ⟨_, hj⟩
      · have := lst_some _ _ _ hj
        have h2 := this.2.2
        unfold q2 at h2
        rw [Bool.and_eq_true] at h2
        exact ⟨by omega, q1j j h2.1⟩
      · have := lst_some _ _ _ hj
        exact ⟨by omega, q1j j this.2.2⟩
    · rw [Bool.not_eq_true] at ha
      rw [hX.1 p hp ha x]
      constructor
      · rintro (h | ⟨c, h1, h2, h3⟩)
        · exact Or.inl h
        · exact Or.inr ⟨c, h1, h2, Or.inl ha, h3⟩
      · rintro (h | ⟨c, h1, h2, _, h3⟩)
        · exact Or.inl h
        · exact Or.inr ⟨c, h1, h2, h3⟩
  have tkS : ∀ m, tkn R (fun i => aA M K (R.getD i t0)) C (m + 1) m = if pr R m = 0 then true else tkn R (fun i => aA M K (R.getD i t0)) C m (pr R m - 1) && (!(aA M K (R.getD (pr R m - 1) t0)) || decide (C (pr R m - 1) = m + 1)) := fun m => zup_self _ _ _
  obtain ⟨tk, etk⟩ : ∃ tk : Nat → Bool, ∀ i, tk i = tkn R (fun i => aA M K (R.getD i t0)) C (i + 1) i := ⟨_, fun _ => rfl⟩
  have tk0 : ∀ c, pr R c = 0 → tk c = true := fun c h => by rw [etk, tkS, if_pos h]
  have tk1 : ∀ c p, c < R.length → pr R c = p + 1 → (tk c = true ↔ tk p = true ∧ (aA M K (R.getD p t0) = false ∨ C p = c + 1)) := by
    intro c p hc h
    have := hprs c hc
    rw [etk c, tkS, if_neg (by omega), show pr R c - 1 = p by omega, tkn_lt c p (by omega), ← etk p, Bool.and_eq_true, Bool.or_eq_true, Bool.not_eq_true', decide_eq_true_eq]
  have down : ∀ d e x, R.length ≤ e + d → e < R.length → S e x = true → tk e = true → tk x = true := by
    intro d
    induction d with
    | zero => intro e x h1 h2; omega
    | succ d ih =>
      intro e x h1 h2 h3 h4
      rcases (st e x h2).mp h3 with ⟨_, h⟩ | ⟨c, c1, c2, c3, c4⟩
      · rw [h]; exact h4
      · have := hprs c c1
        exact ih c x (by omega) c1 c4 ((tk1 c e c1 c2).mpr ⟨h4, c3⟩)
  have up : ∀ d e x, e ≤ d → e < R.length → S e x = true → tk e = true → S 0 x = true := by
    intro d
    induction d with
    | zero => intro e x h1 h2 h3 _; have : e = 0 := by omega
              subst this; exact h3
    | succ d ih =>
      intro e x h1 h2 h3 h4
      by_cases q : pr R e = 0
      · have := ((hok e h2).2.2.2.1 q).2.2
        subst this; exact h3
      · obtain ⟨p, hp⟩ : ∃ p, pr R e = p + 1 := ⟨pr R e - 1, by omega⟩
        have := hprs e h2
        obtain ⟨k1, k2⟩ := (tk1 e p h2 hp).mp h4
        exact ih p x (by omega) (by omega) ((st p x (by omega)).mpr (Or.inr ⟨e, h2, hp, k2, h3⟩)) k1
  unfold txL lsT
  apply List.filter_congr
  intro x hx
  rw [List.mem_range] at hx
  rw [esh x, tkn_lt _ _ hx, ← eC, ← etk x, (tI_link hX hI hx (by omega) (by omega)).1, Bool.eq_iff_iff, Bool.and_eq_true, Bool.and_eq_true, decide_eq_true_eq]
  have hO : S x x = true ↔ aO M K (R.getD x t0) = true := by
    constructor
    · intro h; exact (hmem x x h).2.2
    · intro h; exact (st x x hx).mpr (Or.inl ⟨h, rfl⟩)
  constructor
  · rintro ⟨k0, t1, t2⟩
    rw [neS_iff (hX.2.2.2.2 x)] at t2
    obtain ⟨w, hw⟩ := t2
    rcases (st x w hx).mp hw with ⟨h, _⟩ | ⟨c, c1, c2, _, _⟩
    · exact up x x x (Nat.le_refl _) hx (hO.mpr h) t1
    · have ok := hok c c1
      have o1 := ok.2.2.2.2 (show 0 < pr R c by omega)
      have : (R.getD c t0).1 - 1 = x := by show pr R c - 1 = x; omega
      rw [this] at o1
      exact absurd k0 o1.2.2
  · intro h
    have hm := hmem 0 x h
    have h0 : 0 < R.length := by omega
    have t00 : tk 0 = true := tk0 0 (by have := hprs 0 h0; omega)
    refine ⟨?_, down R.length 0 x (by omega) h0 h t00, (neS_iff (hX.2.2.2.2 x)).mpr ⟨x, hO.mpr hm.2.2⟩⟩
    have := hm.2.2
    unfold aO at this
    rw [Bool.and_eq_true, decide_eq_true_eq] at this
    exact this.1
end FD
