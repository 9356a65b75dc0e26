/-! listLeaves -/
/-- whether an ENTITY's texts are the MAIL's -/
def tkn (R : List eT) (al : Nat → Bool) (C : Nat → Nat) : Nat → Nat → Bool
  | 0 => fun _ => false
  | m + 1 => va_up (tkn R al C m) m (if pr R m = 0 then true else tkn R al C m (pr R m - 1) && (!(al (pr R m - 1)) || decide (C (pr R m - 1) = m + 1)))
def lsT (R : List eT) (al : Nat → Bool) (C : Nat → Nat) (lf_ T : Nat → Bool) (m : Nat) : List Nat := (List.range m).filter (fun i => lf_ i && (tkn R al C m i && T i))
theorem tkn_lt {R : List eT} {al : Nat → Bool} {C : Nat → Nat} : ∀ m i, i < m → tkn R al C m i = tkn R al C (i + 1) i := by
  intro m
  induction m with
  | zero => intro i h; omega
  | succ m ih =>
    intro i h
    by_cases e : i = m
    · subst e; rfl
    · show va_up (tkn R al C m) m _ i = _
      rw [zup_ne _ _ e]; exact ih i (by omega)
theorem lsT_succ {R : List eT} {al : Nat → Bool} {C : Nat → Nat} {lf_ T : Nat → Bool} {m : Nat} : lsT R al C lf_ T (m + 1) = lsT R al C lf_ T m ++ if (lf_ m && (tkn R al C (m + 1) m && T m)) = true then [m] else [] := by
  unfold lsT
  rw [List.range_succ, List.filter_append]
  congr 1
  · apply List.filter_congr
    intro i hi
    rw [List.mem_range] at hi
    rw [tkn_lt (m + 1) i (by omega), tkn_lt m i hi]
  · simp [List.filter_cons]
theorem lsH_succ {g : Nat → Bool} {m : Nat} : (List.range (m + 1)).filter g = (List.range m).filter g ++ if g m = true then [m] else [] := by
  rw [List.range_succ, List.filter_append]
  simp [List.filter_cons]
theorem fil_le (g : Nat → Bool) (m : Nat) : ((List.range m).filter g).length ≤ m := by
  have := List.length_filter_le g (List.range m)
  simpa using this
section ZC2
variable {b : xhp} {ad sk : Nat → Nat} {R : List eT} {al : Nat → Bool} {ls : List (Nat × Nat)} {lo : Nat} {T : Nat → Bool} {C : Nat → Nat} {kd : Nat → Nat} {hg : Nat → Bool}
/-- what listLeaves reads of an ENTITY -/
def zI (n : Nat) (R : List eT) (al T hg : Nat → Bool) (C kd : Nat → Nat) (E : Nat → Nat → Int32) : Prop := ∀ i, i < n → E i 1 = iI (pr R i) ∧ E i 10 = zb (al i) ∧ E i 13 = zb (T i) ∧ E i 15 = iI (C i) ∧ E i 0 = nI (kd i) ∧ E i 12 = zb (hg i)
theorem iI_nI {c m : Nat} (hc : c ≤ 2 ^ 30) (hm : m < 2 ^ 30) : iI c = nI m ↔ c = m + 1 := by
  unfold iI
  by_cases q : c = 0
  · subst q
    rw [if_pos rfl]
    refine ⟨fun e => ?_, fun e => by omega⟩
    have h1 := nI_toInt (n := m) (by omega)
    rw [← e] at h1
    have : ((-1 : Int32)).toInt = -1 := by decide
    omega
  · rw [if_neg q, nI_eq (by omega) (by omega)]; omega
theorem m_list_aux (h60 : R.length ≤ 60) (hpr : ∀ i, i < R.length → pr R i ≤ i) (hkd : ∀ i, kd i ≤ 2) (hCb : ∀ i, C i ≤ 60) {post : xhp → Prop} : ∀ (n m : Nat) (r : Nat → List Nat) (E : Nat → Nat → Int32) (f : xhp), m + n = R.length → zMP b f ad (r, E, ls, R.length, lo) → zI R.length R al T hg C kd E → (∀ i, i < m → E i 16 = zb (tkn R al C m i)) → r 10 = lsT R al C (fun i => decide (kd i = 0)) T m → r 11 = (List.range m).filter hg → (∀ f' r' E', zMP b f' ad (r', E', ls, R.length, lo) → (∀ j, j ≠ 10 → j ≠ 11 → r' j = r j) → (∀ i k, k ≠ 16 → E' i k = E i k) → r' 10 = lsT R al C (fun i => decide (kd i = 0)) T R.length → r' 11 = (List.range R.length).filter hg → post f') → w_Mp_listLeaves_16 post (n + 1) (ad 0) (nI m) f := by
  intro n
  induction n with
  | zero =>
    intro m r E f hm h hI h16 h10 h11 hp
    have : m = R.length := by omega
    subst this
    exact ⟨nI R.length, ⟨_, h.2.2.1, rfl⟩, fun _ => hp f r E h (fun _ _ _ => rfl) (fun _ _ _ => rfl) h10 h11, fun c => absurd (nI_le (Nat.le_refl _) (by omega)) c⟩
  | succ n ih =>
    intro m r E f hm h hI h16 h10 h11 hp
    have hm60 : m < 60 := by omega
    obtain ⟨i1, i10, i13, i15, i0, i12⟩ := hI m (by omega)
    refine ⟨nI R.length, ⟨_, h.2.2.1, rfl⟩, fun c => absurd c (by rw [nI_leI (by omega) (by omega)]; omega), fun _ => ⟨h.O0, m_findE h h60 ?_⟩⟩
    dsimp only
    rw [zfind_nI (by omega) (by omega)]
    refine ⟨fun c => (by cases c), fun a c => ?_⟩
    cases c
    refine ⟨iI (pr R m), h.eg hm60 (by decide) i1, h.O0, m_findE h h60 ?_⟩
    dsimp only
    -- the last step: whether it hangs
    have f107 : ∀ f1 r1 E1, zMP b f1 ad (r1, E1, ls, R.length, lo) → (∀ j, j ≠ 10 → j ≠ 11 → r1 j = r j) → (∀ i k, k ≠ 16 → E1 i k = E i k) → (∀ i, i < m + 1 → E1 i 16 = zb (tkn R al C (m + 1) i)) → r1 10 = lsT R al C (fun i => decide (kd i = 0)) T (m + 1) → r1 11 = (List.range m).filter hg → w_Mp_listLeaves_107 post (w_Mp_listLeaves_16 post (n + 1)) (ad 0) (nI m) (zen ad m) f1 := by
      intro f1 r1 E1 h1 hr1 hE1 h161 h101 h111
      have nx : ∀ f2 r2, zMP b f2 ad (r2, E1, ls, R.length, lo) → (∀ j, j ≠ 11 → r2 j = r1 j) → r2 11 = (List.range (m + 1)).filter hg → w_Mp_listLeaves_122 post (w_Mp_listLeaves_16 post (n + 1)) (ad 0) (nI m) f2 := by
        intro f2 r2 h2 hr2 h112
        show w_Mp_listLeaves_16 post (n + 1) (ad 0) (nI m + 1) f2
        rw [nI_1]
        refine ih (m + 1) r2 E1 f2 (by omega) h2 (fun i hi => ?_) h161 (by rw [hr2 10 (by decide)]; exact h101) h112 (fun f' r' E' h' hr' hE' q10 q11 => hp f' r' E' h' (fun j a1 a2 => by rw [hr' j a1 a2, hr2 j a2, hr1 j a1 a2]) (fun i k a1 => by rw [hE' i k a1, hE1 i k a1]) q10 q11)
        rw [hE1 i 1 (by decide), hE1 i 10 (by decide), hE1 i 13 (by decide), hE1 i 15 (by decide), hE1 i 0 (by decide), hE1 i 12 (by decide)]
        exact hI i hi
      refine ⟨zb (hg m), h1.eg hm60 (by decide) (by dsimp only; rw [hE1 m 12 (by decide)]; exact i12), fun c => ?_, fun c => ⟨_, ⟨_, h1.2.2.1, rfl⟩, h1.rO (by decide), ?_⟩⟩
      · rw [zb_0] at c
        refine nx f1 r1 h1 (fun _ _ => rfl) ?_
        rw [lsH_succ, if_neg (by rw [c]; decide), List.append_nil]; exact h111
      · rw [zb_n0] at c
        have hl := fil_le hg m
        refine m_add (j := 11) (by decide) h1 (by dsimp only; rw [h111]; exact Nat.lt_of_le_of_lt hl hm60) (fun f2 h2 => nx f2 _ h2 (fun j hj => zup_ne _ _ hj) ?_)
        dsimp only
        rw [zup_self, h111, lsH_succ, if_pos c]
    -- whether it is taken, and is a text
    have f75 : ∀ q, q = tkn R al C (m + 1) m → w_Mp_listLeaves_75 post (w_Mp_listLeaves_16 post (n + 1)) (ad 0) (nI m) (zen ad m) (zb q) (zen ad m) f := by
      intro q eq
      have k0 : nI (kd m) = (0 : Int32) ↔ kd m = 0 := nI_kd (hkd m)
      refine ⟨zb_xz _, m_wr (h.e0 m) hm60 (by decide) (fun f2 h2 => ?_)⟩
      have hE2 : ∀ i k, k ≠ 16 → va_up E m (va_up (E m) 16 (zb q)) i k = E i k := by
        intro i k hk
        by_cases e : i = m
        · subst e; rw [zup_self, zup_ne _ _ hk]
        · rw [zup_ne _ _ e]
      have h162 : ∀ i, i < m + 1 → va_up E m (va_up (E m) 16 (zb q)) i 16 = zb (tkn R al C (m + 1) i) := by
        intro i hi
        by_cases e : i = m
        · subst e; rw [zup_self, zup_self, eq]
        · rw [zup_ne _ _ e, h16 i (by omega), tkn_lt m i (by omega), tkn_lt (m + 1) i (by omega)]
      have no : (decide (kd m = 0) && (tkn R al C (m + 1) m && T m)) = false → w_Mp_listLeaves_107 post (w_Mp_listLeaves_16 post (n + 1)) (ad 0) (nI m) (zen ad m) f2 := by
        intro hn
        refine f107 f2 r _ h2 (fun _ _ _ => rfl) hE2 h162 ?_ h11
        rw [lsT_succ, if_neg (by rw [hn]; decide), List.append_nil]; exact h10
      refine ⟨nI (kd m), h2.ef hm60 (by decide) (by rw [zup_ne _ _ (by decide)]; exact i0), fun c => ?_, fun c => ⟨zb q, h2.ef hm60 (by decide) (zup_self _ _ _), fun c1 => ?_, fun c1 => ⟨zb (T m), h2.ef hm60 (by decide) (by rw [zup_ne _ _ (by decide)]; exact i13), fun c2 => ?_, fun c2 => ⟨_, ⟨_, h2.2.2.1, rfl⟩, h2.rO (by decide), ?_⟩⟩⟩⟩
      · rw [k0] at c; exact no (by rw [decide_eq_false c]; rfl)
      · rw [zb_0, eq] at c1; exact no (by rw [c1]; simp)
      · rw [zb_0] at c2; exact no (by rw [c2]; simp)
      · rw [k0] at c; rw [zb_n0, eq] at c1; rw [zb_n0] at c2
        have hl : (lsT R al C (fun i => decide (kd i = 0)) T m).length ≤ m := fil_le _ m
        refine m_add (j := 10) (by decide) h2 (by dsimp only; rw [h10]; exact Nat.lt_of_le_of_lt hl hm60) (fun f3 h3 => f107 f3 _ _ h3 (fun j a1 a2 => zup_ne _ _ a1) hE2 h162 ?_ (by dsimp only; rw [zup_ne _ _ (by decide)]; exact h11))
        dsimp only
        rw [zup_self, h10, lsT_succ, if_pos (by rw [decide_eq_true c, c1, c2]; rfl)]
    have tk1 : tkn R al C (m + 1) m = if pr R m = 0 then true else tkn R al C m (pr R m - 1) && (!(al (pr R m - 1)) || decide (C (pr R m - 1) = m + 1)) := zup_self _ _ _
    by_cases q : pr R m = 0
    · rw [show iI (pr R m) = -1 by rw [q]; rfl, zfind_m1]
      exact ⟨fun _ => f75 true (by rw [tk1, if_pos q]), fun a c => (by cases c)⟩
    · have hq := hpr m (by omega)
      rw [if_neg q] at tk1
      obtain ⟨p, ep⟩ : ∃ p, p = pr R m - 1 := ⟨_, rfl⟩
      rw [← ep] at tk1
      rw [show iI (pr R m) = nI p by unfold iI; rw [if_neg q, ep], zfind_nI (by omega) (by omega)]
      refine ⟨fun c => (by cases c), fun a c => ?_⟩
      cases c
      have hp60 : p < 60 := by omega
      obtain ⟨p1, p10, p13, p15, p0, p12⟩ := hI p (by omega)
      refine ⟨zb (tkn R al C m p), h.eg hp60 (by decide) (h16 p (by omega)), fun x1 => ?_, fun x1 => ⟨zb (al p), h.eg hp60 (by decide) p10, fun x2 => ?_, fun x2 => ⟨iI (C p), h.eg hp60 (by decide) p15, fun x3 => ?_, fun x3 => ?_⟩⟩⟩
      · rw [zb_0] at x1; exact f75 false (by rw [tk1, x1]; rfl)
      · rw [zb_n0] at x1; rw [zb_0] at x2; exact f75 true (by rw [tk1, x1, x2]; rfl)
      · rw [zb_n0] at x1 x2; rw [iI_nI (by have := hCb p; omega) (by omega)] at x3; exact f75 false (by rw [tk1, x1, x2, decide_eq_false x3]; rfl)
      · rw [zb_n0] at x1 x2; rw [iI_nI (by have := hCb p; omega) (by omega)] at x3; exact f75 true (by rw [tk1, x1, x2, decide_eq_true x3]; rfl)
theorem m_list (h60 : R.length ≤ 60) (hpr : ∀ i, i < R.length → pr R i ≤ i) (hkd : ∀ i, kd i ≤ 2) (hCb : ∀ i, C i ≤ 60) {post : xhp → Prop} {r : Nat → List Nat} {E : Nat → Nat → Int32} {f : xhp} (h : zMP b f ad (r, E, ls, R.length, lo)) (hI : zI R.length R al T hg C kd E) (hp : ∀ f' r' E', zMP b f' ad (r', E', ls, R.length, lo) → (∀ j, j ≠ 10 → j ≠ 11 → r' j = r j) → (∀ i k, k ≠ 16 → E' i k = E i k) → r' 10 = lsT R al C (fun i => decide (kd i = 0)) T R.length → r' 11 = (List.range R.length).filter hg → post f') : w_Mp_listLeaves post (ad 0) f := by
  refine ⟨_, ⟨_, h.2.2.1, rfl⟩, h.rO (by decide), m_clear (j := 10) (by decide) h (fun f2 h2 => ⟨_, ⟨_, h2.2.2.1, rfl⟩, h2.rO (by decide), m_clear (j := 11) (by decide) h2 (fun f4 h4 => ⟨R.length + 1, ?_⟩)⟩)⟩
  dsimp only at h4
  exact m_list_aux h60 hpr hkd hCb R.length 0 _ E f4 (by omega) h4 hI (fun i hi => by omega) (by rw [zup_ne _ _ (by decide), zup_self]; rfl) (by rw [zup_self]; rfl) (fun f' r' E' h' hr' hE' q1 q2 => hp f' r' E' h' (fun j a1 a2 => by rw [hr' j a1 a2, zup_ne _ _ a2, zup_ne _ _ a1]) hE' q1 q2)
end ZC2
