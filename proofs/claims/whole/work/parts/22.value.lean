/-! Value's methods: what they mean -/
theorem gd_ext {A B : List Nat} (h1 : A.length = B.length) (h2 : ∀ i, i < A.length → A.getD i 0 = B.getD i 0) : A = B := by
  apply List.ext_getElem h1
  intro i ha hb
  have := h2 i ha
  simpa [List.getD, ha, hb] using this
theorem gd_set {A : List Nat} {k x i : Nat} (hk : k < A.length) : (A.set k x).getD i 0 = if i = k then x else A.getD i 0 := by
  simp only [List.getD_eq_getElem?_getD, List.getElem?_set]
  by_cases e : k = i
  · subst e; simp [hk]
  · simp [e, Ne.symm e]
theorem gd_app {A B : List Nat} {i : Nat} : (A ++ B).getD i 0 = if i < A.length then A.getD i 0 else B.getD (i - A.length) 0 := by
  simp only [List.getD_eq_getElem?_getD]
  split
  · rw [List.getElem?_append_left (by assumption)]
  · rw [List.getElem?_append_right (by omega)]
theorem gd_take {A : List Nat} {n i : Nat} (h : i < n) : (A.take n).getD i 0 = A.getD i 0 := by
  simp only [List.getD_eq_getElem?_getD]; rw [List.getElem?_take_of_lt h]
theorem gd_drop {A : List Nat} {n i : Nat} : (A.drop n).getD i 0 = A.getD (n + i) 0 := by
  simp only [List.getD_eq_getElem?_getD]; rw [List.getElem?_drop]
/-- all are bytes -/
def zB (L : List Nat) : Prop := ∀ i, L.getD i 0 < 256
theorem zB.sub {L : List Nat} (h : zB L) (s e : Nat) : zB (sub L s e) := by
  intro i
  by_cases hi : i < (Jvm.Pilot.CMailPartsLaw_law_r4041_3cd308.sub L s e).length
  · simp only [Jvm.Pilot.CMailPartsLaw_law_r4041_3cd308.sub] at hi ⊢
    rw [gd_take (by simp only [List.length_take] at hi; omega), gd_drop]; exact h _
  · simp [List.getD, List.getElem?_eq_none (Nat.le_of_not_lt hi)]
theorem zB.app {A B : List Nat} (h1 : zB A) (h2 : zB B) : zB (A ++ B) := by
  intro i; rw [gd_app]; split
  · exact h1 _
  · exact h2 _
theorem zB.nil : zB [] := by intro i; simp
section ZV
variable {b f : xhp} {ad : Nat → Nat} {z : zS}
theorem zMP.vl (h : zMP b f ad z) : xV f (zvl ad) 3 0 (.ref (ro ad 3)) := ⟨_, h.2.2.2.2.2.1, rfl⟩
theorem zMP.vO (h : zMP b f ad z) : xO f (zvl ad) 3 := ⟨_, h.2.2.2.2.2.1⟩
theorem zMP.row (h : zMP b f ad z) {j : Nat} (hj : j < 20) : zrow f ad j (z.1 j) := h.2.2.2.1 j hj
theorem zMP.sz (h : zMP b f ad z) {j : Nat} (hj : j < 20) : xV f (ro ad j) 2 1 (.int (nI (z.1 j).length)) := ⟨_, (h.row hj).2.1, rfl⟩
theorem zMP.rO (h : zMP b f ad z) {j : Nat} (hj : j < 20) : xO f (ro ad j) 2 := (h.row hj).O
theorem zMP.len (h : zMP b f ad z) {j : Nat} (hj : j < 20) : (z.1 j).length ≤ 1500 := Nat.le_trans (h.row hj).1 (zcap_le j)
theorem m_behind_aux (h : zMP b f ad z) (hB : zB (z.1 3)) {e : Nat} (he : e ≤ (z.1 3).length) {post : Int32 → xhp → Prop} : ∀ n i, e - i = n → i < 2 ^ 30 → post (nI (skp isBlk (z.1 3) e n i)) f → w_Va_behindBlanks_2 post (n + 1) (zvl ad) (nI e) (nI i) f := by
  have hl := h.len (j := 3) (by decide)
  intro n
  induction n with
  | zero =>
    intro i hi h30 hp
    refine ⟨fun _ => hp, fun c => absurd (nI_le (by omega) (by omega)) c⟩
  | succ n ih =>
    intro i hi h30 hp
    refine ⟨fun c => ?_, fun c => ⟨_, h.vl, h.rO (by decide), m_get (h.row (by decide)) ?_⟩⟩
    · rw [nI_leI (by omega) (by omega)] at c; omega
    · rw [rget_nI (by omega) (by omega)]
      simp only [skp, if_pos (show i < e by omega)] at hp
      refine m_blank (by have := hB i; omega) ?_
      refine ⟨fun c2 => ?_, fun c2 => ?_⟩
      · by_cases hb : isBlk ((z.1 3).getD i 0) = true
        · rw [if_pos hb] at c2; exact absurd c2 (by decide)
        · rw [if_neg hb] at hp; exact hp
      · by_cases hb : isBlk ((z.1 3).getD i 0) = true
        · rw [if_pos hb] at hp
          rw [nI_1]
          exact ih (i + 1) (by omega) (by omega) hp
        · rw [if_neg hb] at c2; exact absurd rfl c2
theorem m_behind (h : zMP b f ad z) (hB : zB (z.1 3)) {s e : Nat} (he : e ≤ (z.1 3).length) (hs : s < 2 ^ 30) {post : Int32 → xhp → Prop} (hp : post (nI (skip isBlk (z.1 3) s e)) f) : w_Va_behindBlanks post (zvl ad) (nI s) (nI e) f :=
  ⟨_, m_behind_aux h hB he (e - s) s rfl hs hp⟩
theorem m_ahead_aux (h : zMP b f ad z) (hB : zB (z.1 3)) {s : Nat} (hs : s < 2 ^ 30) {post : Int32 → xhp → Prop} : ∀ e, e ≤ (z.1 3).length → post (nI (trR (z.1 3) s e)) f → w_Va_aheadOfBlanks_2 post (e + 1) (zvl ad) (nI s) (nI e) f := by
  have hl := h.len (j := 3) (by decide)
  intro e
  induction e with
  | zero =>
    intro he hp
    exact ⟨fun _ => hp, fun c => absurd (nI_le (by omega) (by omega)) c⟩
  | succ e ih =>
    intro he hp
    refine ⟨fun c => ?_, fun c => ⟨_, h.vl, h.rO (by decide), ?_⟩⟩
    · rw [nI_leI (by omega) (by omega)] at c
      simp only [trR, if_neg (show ¬ (s < e + 1 ∧ isBlk ((z.1 3).getD e 0) = true) by omega)] at hp; exact hp
    · rw [nI_leI (by omega) (by omega)] at c
      rw [nI_pred]
      refine m_get (h.row (by decide)) ?_
      rw [rget_nI (by omega) (by omega)]
      refine m_blank (by have := hB e; omega) ?_
      simp only [trR] at hp
      refine ⟨fun c2 => ?_, fun c2 => ?_⟩
      · by_cases hb : isBlk ((z.1 3).getD e 0) = true
        · rw [if_pos hb] at c2; exact absurd c2 (by decide)
        · rw [if_neg (fun hh => hb hh.2)] at hp; exact hp
      · by_cases hb : isBlk ((z.1 3).getD e 0) = true
        · rw [if_pos ⟨by omega, hb⟩] at hp
          rw [pk_m1]
          exact ih (by omega) hp
        · rw [if_neg hb] at c2; exact absurd rfl c2
theorem m_ahead (h : zMP b f ad z) (hB : zB (z.1 3)) {s e : Nat} (he : e ≤ (z.1 3).length) (hs : s < 2 ^ 30) {post : Int32 → xhp → Prop} (hp : post (nI (trR (z.1 3) s e)) f) : w_Va_aheadOfBlanks post (zvl ad) (nI s) (nI e) f :=
  ⟨_, m_ahead_aux h hB hs e he hp⟩
def zb (q : Bool) : Int32 := if q = true then 1 else 0
theorem zb_0 {q : Bool} : zb q = 0 ↔ q = false := by cases q <;> simp [zb]
theorem m_find_aux (h : zMP b f ad z) (hB : zB (z.1 3)) {w e : Nat} (hw : w < 256) (hw34 : w ≠ 34) (he : e ≤ (z.1 3).length) {post : Int32 → xhp → Prop} : ∀ n q i, e ≤ i + n → i < 2 ^ 30 → post (nI (fndF w (z.1 3) e (n + 1) q i)) f → w_Va_find_6 post (n + 1) (zvl ad) (nI w) (nI e) (zb q) (nI i) f := by
  have hl := h.len (j := 3) (by decide)
  intro n
  induction n with
  | zero =>
    intro q i hi h30 hp
    refine ⟨fun _ => ?_, fun c => absurd (nI_le (by omega) (by omega)) c⟩
    simp only [fndF, if_neg (show ¬ i < e by omega)] at hp
    exact hp
  | succ n ih =>
    intro q i hi h30 hp
    by_cases hie : i < e
    · refine ⟨fun c => ?_, fun c => ⟨_, h.vl, h.rO (by decide), m_get (h.row (by decide)) ?_⟩⟩
      · rw [nI_leI (by omega) (by omega)] at c; omega
      · rw [rget_nI (by omega) (by omega)]
        have hb := hB i
        generalize hx : (z.1 3).getD i 0 = x at hb
        have e34 : nI x = (34 : Int32) ↔ x = 34 := nI_eq (b := 34) (by omega) (by omega)
        have e92 : nI x = (92 : Int32) ↔ x = 92 := nI_eq (b := 92) (by omega) (by omega)
        have ew : nI x = nI w ↔ x = w := nI_eq (by omega) (by omega)
        rw [fndF, if_pos hie, hx] at hp
        have k37 : ¬ (x = w ∧ q = false) → w_Va_find_37 post (w_Va_find_6 post (n + 1)) (zvl ad) (nI w) (nI e) (zb q) (nI i) (nI x) f := by
          intro hno
          rw [if_neg hno] at hp
          refine ⟨fun c1 => ⟨fun c2 => ?_, fun c2 => ⟨fun c3 => ?_, fun c3 => ?_⟩⟩, fun c1 => ⟨fun c3 => ?_, fun c3 => ?_⟩⟩
          · rw [e34] at c1; rw [e92] at c2
            rw [if_neg c1, if_neg (by simp [c2])] at hp
            show w_Va_find_6 post (n + 1) _ _ _ _ (nI i + 1) f
            rw [nI_1]; exact ih q (i + 1) (by omega) (by omega) hp
          · rw [e34] at c1; rw [zb_0] at c3
            rw [if_neg c1, if_neg (by simp [c3])] at hp
            show w_Va_find_6 post (n + 1) _ _ _ _ (nI i + 1) f
            rw [nI_1]; exact ih q (i + 1) (by omega) (by omega) hp
          · rw [e34] at c1; rw [e92] at c2; rw [zb_0, Bool.not_eq_false] at c3
            rw [if_neg c1, if_pos ⟨c2, c3⟩] at hp
            show w_Va_find_6 post (n + 1) _ _ _ _ (nI i + 1 + 1) f
            rw [nI_1, nI_1]; exact ih q (i + 2) (by omega) (by omega) hp
          · rw [e34] at c1; rw [zb_0, Bool.not_eq_false] at c3
            rw [if_pos c1, c3] at hp
            show w_Va_find_6 post (n + 1) _ _ _ 0 (nI i + 1) f
            rw [nI_1]; exact ih false (i + 1) (by omega) (by omega) hp
          · rw [e34] at c1; rw [zb_0] at c3
            rw [if_pos c1, c3] at hp
            show w_Va_find_6 post (n + 1) _ _ _ 1 (nI i + 1) f
            rw [nI_1]; exact ih true (i + 1) (by omega) (by omega) hp
        refine ⟨fun c1 => k37 (fun hh => c1 (ew.mpr hh.1)), fun c1 => ⟨fun c2 => k37 (fun hh => c2 (zb_0.mpr hh.2)), fun c2 => ?_⟩⟩
        rw [ew] at c1; rw [zb_0] at c2
        rw [if_pos ⟨c1, c2⟩] at hp; exact hp
    · refine ⟨fun _ => ?_, fun c => absurd (nI_le (by omega) (by omega)) c⟩
      rw [fndF, if_neg hie] at hp
      exact hp
theorem m_find (h : zMP b f ad z) (hB : zB (z.1 3)) {w s e : Nat} (hw : w < 256) (hw34 : w ≠ 34) (he : e ≤ (z.1 3).length) (hs : s < 2 ^ 30) {post : Int32 → xhp → Prop} (hp : post (nI (fnd w (z.1 3) s e)) f) : w_Va_find post (zvl ad) (nI w) (nI s) (nI e) f :=
  ⟨_, m_find_aux h hB hw hw34 he (e - s) false s (by omega) hs hp⟩
end ZV
