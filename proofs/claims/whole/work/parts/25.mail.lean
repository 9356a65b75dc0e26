/-! Mail's methods: what they mean. M the MAIL's bytes, K its lines (from, to) -/
def lf (M : List Nat) (K : List (Nat × Nat)) (l : Nat) : Nat := if l < K.length then (K.getD l (0, 0)).1 else M.length
def lt (M : List Nat) (K : List (Nat × Nat)) (l : Nat) : Nat := if l < K.length then (K.getD l (0, 0)).2 else M.length
/-- the lines are in order, with a byte between -/
def zL (M : List Nat) (K : List (Nat × Nat)) : Prop := K.length ≤ M.length ∧ (∀ i, i < K.length → (K.getD i (0, 0)).1 ≤ (K.getD i (0, 0)).2 ∧ (K.getD i (0, 0)).2 ≤ M.length) ∧ ∀ i, i + 1 < K.length → (K.getD i (0, 0)).2 < (K.getD (i + 1) (0, 0)).1
def blk (M : List Nat) (K : List (Nat × Nat)) (l : Nat) : Bool := decide (lf M K l < M.length) && isBlk (M.getD (lf M K l) 0)
def colF (M : List Nat) (s e : Nat) : Nat → Nat → Option Nat
  | 0, _ => none
  | n + 1, i => if i < e then (if M.getD i 0 = 58 then (if s < i then some i else none) else if isNm (M.getD i 0) = true then colF M s e n (i + 1) else none) else none
def col (M : List Nat) (s e : Nat) : Option Nat := colF M s e (e - s) s
def colL (M : List Nat) (K : List (Nat × Nat)) (l : Nat) : Option Nat := col M (lf M K l) (lt M K l)
def oI : Option Nat → Int32
  | some t => nI t
  | none => -1
theorem oI_none {o : Option Nat} (h : ∀ t, o = some t → t < 2 ^ 31) : oI o = -1 ↔ o = none := by
  cases o with
  | none => simp [oI]
  | some t =>
    simp only [oI, reduceCtorEq, iff_false]
    intro e
    have h1 := nI_toInt (n := t) (h t rfl)
    rw [e] at h1
    have : ((-1 : Int32)).toInt = -1 := by decide
    omega
theorem zL.f_le {M : List Nat} {K : List (Nat × Nat)} (h : zL M K) (l : Nat) : lf M K l ≤ lt M K l ∧ lt M K l ≤ M.length := by
  unfold lf lt
  split
  · exact h.2.1 l (by assumption)
  · omega
theorem colF_lt {M : List Nat} {s e : Nat} : ∀ n i t, colF M s e n i = some t → i ≤ t ∧ t < e ∧ s < t ∧ M.getD t 0 = 58 := by
  intro n
  induction n with
  | zero => intro i t h; simp [colF] at h
  | succ n ih =>
    intro i t h
    simp only [colF] at h
    split at h
    · split at h
      · split at h
        · cases h; exact ⟨Nat.le_refl _, by assumption, by assumption, by assumption⟩
        · cases h
      · split at h
        · have := ih _ _ h; exact ⟨by omega, this.2.1, this.2.2.1, this.2.2.2⟩
        · cases h
    · cases h
theorem colL_lt {M : List Nat} {K : List (Nat × Nat)} {l t : Nat} (h : colL M K l = some t) : lf M K l < t ∧ t < lt M K l ∧ M.getD t 0 = 58 := by
  have := colF_lt _ _ _ h; exact ⟨this.2.2.1, this.2.1, this.2.2.2⟩
section ZM
variable {b f : xhp} {ad : Nat → Nat} {z : zS}
theorem zMP.mb (h : zMP b f ad z) : xV f (zml ad) 1 0 (.ref (ro ad 2)) := ⟨_, h.2.2.2.2.1.2.1, rfl⟩
theorem zMP.mO (h : zMP b f ad z) : xO f (zml ad) 1 := ⟨_, h.2.2.2.2.1.2.1⟩
theorem m_startOf (h : zMP b f ad z) {l : Nat} (hl : l < 2 ^ 31) {post : Int32 → xhp → Prop} (hp : post (nI (lf (z.1 2) z.2.2.1 l)) f) : w_Ma_startOf post (zml ad) (nI l) f := by
  obtain ⟨l1, l2, st, sp, l3, l4, l5⟩ := h.2.2.2.2.1
  have out : z.2.2.1.length ≤ l → w_Ma_startOf_30 post (zml ad) f := fun hh => by
    rw [lf, if_neg (by omega)] at hp
    exact ⟨_, h.mb, _, h.sz (by decide), hp⟩
  refine ⟨fun c => absurd c (nI_pos hl), fun _ => ⟨_, ⟨_, l2, rfl⟩, fun c => out ?_, fun c => ⟨_, ⟨_, l2, rfl⟩, _, _, _, l3, by decide, fun c2 => out ?_, fun c2 => ⟨_, ⟨_, l2, rfl⟩, _, _, l3, ?_, ?_⟩⟩⟩⟩
  · rw [nI_leI (by omega) hl] at c; exact c
  · rw [nI_leI (by omega) hl] at c2; omega
  · rw [nI_leI (by omega) hl] at c2; exact vp_in_nI (by omega) (by omega)
  · rw [nI_leI (by omega) hl] at c
    rw [lf, if_pos (by omega)] at hp
    show post (st (nI l).toNatClampNeg) f
    rw [nI_clamp hl, (l5 l (by omega)).1]; exact hp
theorem m_stopOf (h : zMP b f ad z) {l : Nat} (hl : l < 2 ^ 31) {post : Int32 → xhp → Prop} (hp : post (nI (lt (z.1 2) z.2.2.1 l)) f) : w_Ma_stopOf post (zml ad) (nI l) f := by
  obtain ⟨l1, l2, st, sp, l3, l4, l5⟩ := h.2.2.2.2.1
  have out : z.2.2.1.length ≤ l → w_Ma_stopOf_30 post (zml ad) f := fun hh => by
    rw [lt, if_neg (by omega)] at hp
    exact ⟨_, h.mb, _, h.sz (by decide), hp⟩
  refine ⟨fun c => absurd c (nI_pos hl), fun _ => ⟨_, ⟨_, l2, rfl⟩, fun c => out ?_, fun c => ⟨_, ⟨_, l2, rfl⟩, _, _, _, l4, by decide, fun c2 => out ?_, fun c2 => ⟨_, ⟨_, l2, rfl⟩, _, _, l4, ?_, ?_⟩⟩⟩⟩
  · rw [nI_leI (by omega) hl] at c; exact c
  · rw [nI_leI (by omega) hl] at c2; omega
  · rw [nI_leI (by omega) hl] at c2; exact vp_in_nI (by omega) (by omega)
  · rw [nI_leI (by omega) hl] at c
    rw [lt, if_pos (by omega)] at hp
    show post (sp (nI l).toNatClampNeg) f
    rw [nI_clamp hl, (l5 l (by omega)).2]; exact hp
theorem zb_xz (q : Bool) : xz (zb q) := by cases q <;> simp [zb, xz]
theorem ite_zb (q : Bool) : (if q = true then (1 : Int32) else 0) = zb q := rfl
theorem m_beginsBlank (h : zMP b f ad z) (hB : zB (z.1 2)) {l : Nat} (hl : l < 2 ^ 31) (hL : zL (z.1 2) z.2.2.1) {post : Int32 → xhp → Prop} (hp : post (zb (blk (z.1 2) z.2.2.1 l)) f) : w_Ma_beginsBlank post (zml ad) (nI l) f := by
  have hlen := h.len (j := 2) (by decide)
  have hle := hL.f_le l
  refine ⟨_, h.mb, h.mO, m_startOf h hl ⟨h.rO (by decide), m_get (h.row (by decide)) ?_⟩⟩
  have hb := hB (lf (z.1 2) z.2.2.1 l)
  by_cases hin : lf (z.1 2) z.2.2.1 l < (z.1 2).length
  · rw [rget_nI hin (by omega)]
    refine m_blank (by omega) ?_
    rw [ite_zb]
    refine ⟨zb_xz _, ?_⟩
    rw [blk, decide_eq_true hin, Bool.true_and] at hp; exact hp
  · rw [rget_out (by omega) (by omega)]
    refine m_blank_none ⟨Or.inl rfl, ?_⟩
    rw [blk, decide_eq_false hin, Bool.false_and] at hp; exact hp
theorem m_isEmptyLine (h : zMP b f ad z) {l : Nat} (hl : l < 2 ^ 31) (hL : zL (z.1 2) z.2.2.1) {post : Int32 → xhp → Prop} (hp : post (if lf (z.1 2) z.2.2.1 l < lt (z.1 2) z.2.2.1 l then 0 else 1) f) : w_Ma_isEmptyLine post (zml ad) (nI l) f := by
  have hlen := h.len (j := 2) (by decide)
  have hle := hL.f_le l
  refine ⟨h.mO, m_startOf h hl ⟨h.mO, m_stopOf h hl ⟨fun c => ?_, fun c => ?_⟩⟩⟩
  · rw [nI_ltI (by omega) (by omega)] at c; rw [if_pos c] at hp; exact ⟨Or.inl rfl, hp⟩
  · rw [nI_ltI (by omega) (by omega)] at c; rw [if_neg c] at hp; exact ⟨Or.inr rfl, hp⟩
theorem m_colonOf_aux (h : zMP b f ad z) (hB : zB (z.1 2)) {s e : Nat} (hs : s < 2 ^ 30) (he : e ≤ (z.1 2).length) {post : Int32 → xhp → Prop} : ∀ n i, e - i = n → i < 2 ^ 30 → post (oI (colF (z.1 2) s e n i)) f → w_Ma_colonOf_15 post (n + 1) (zml ad) (nI s) (nI e) (nI i) f := by
  have hlen := h.len (j := 2) (by decide)
  intro n
  induction n with
  | zero =>
    intro i hi h30 hp
    exact ⟨fun _ => hp, fun c => absurd (nI_le (by omega) (by omega)) c⟩
  | succ n ih =>
    intro i hi h30 hp
    refine ⟨fun c => ?_, fun c => ⟨_, h.mb, h.rO (by decide), m_get (h.row (by decide)) ?_⟩⟩
    · rw [nI_leI (by omega) (by omega)] at c; omega
    · rw [rget_nI (by omega) (by omega)]
      have hb := hB i
      have e58 : nI ((z.1 2).getD i 0) = (58 : Int32) ↔ (z.1 2).getD i 0 = 58 := nI_eq (b := 58) (by omega) (by omega)
      simp only [colF, if_pos (show i < e by omega)] at hp
      refine ⟨fun c1 => m_nameByte (by omega) ?_, fun c1 => ⟨fun c2 => ?_, fun c2 => ?_⟩⟩
      · rw [e58] at c1
        rw [if_neg c1] at hp
        rw [ite_zb]
        refine ⟨fun c2 => ?_, fun c2 => ?_⟩
        · rw [zb_0, Bool.not_eq_false] at c2
          rw [if_pos c2] at hp
          rw [nI_1]; exact ih (i + 1) (by omega) (by omega) hp
        · rw [zb_0] at c2
          rw [if_neg (by rw [c2]; decide)] at hp; exact hp
      · rw [e58] at c1; rw [nI_leI (by omega) (by omega)] at c2
        rw [if_pos c1, if_neg (by omega)] at hp; exact hp
      · rw [e58] at c1; rw [nI_leI (by omega) (by omega)] at c2
        rw [if_pos c1, if_pos (by omega)] at hp; exact hp
theorem m_colonOf (h : zMP b f ad z) (hB : zB (z.1 2)) {l : Nat} (hl : l < 2 ^ 31) (hL : zL (z.1 2) z.2.2.1) {post : Int32 → xhp → Prop} (hp : post (oI (colL (z.1 2) z.2.2.1 l)) f) : w_Ma_colonOf post (zml ad) (nI l) f := by
  have hlen := h.len (j := 2) (by decide)
  have hle := hL.f_le l
  exact ⟨h.mO, m_startOf h hl ⟨h.mO, m_stopOf h hl ⟨_, m_colonOf_aux h hB (by omega) hle.2 _ _ rfl (by omega) hp⟩⟩⟩
end ZM
/-- the HEAD's end -/
def hdF (M : List Nat) (K : List (Nat × Nat)) (from_ to_ : Nat) : Nat → Nat → Nat
  | 0, _ => to_
  | n + 1, l => if l < to_ then (if (from_ < l ∧ blk M K l = true) ∨ colL M K l ≠ none then hdF M K from_ to_ n (l + 1) else l) else to_
def hd (M : List Nat) (K : List (Nat × Nat)) (from_ to_ : Nat) : Nat := hdF M K from_ to_ (to_ - from_) from_
def flF (M : List Nat) (K : List (Nat × Nat)) (N : List Nat) (to_ : Nat) : Nat → Nat → Option Nat
  | 0, _ => none
  | n + 1, l => if l < to_ then (if colL M K l = some (lf M K l + N.length) ∧ hasNm M N (lf M K l) = true then some l else flF M K N to_ n (l + 1)) else none
/-- the line of the FIELD of the name N -/
def fl (M : List Nat) (K : List (Nat × Nat)) (N : List Nat) (from_ to_ : Nat) : Option Nat := flF M K N to_ (to_ - from_) from_
section ZM2
variable {b f : xhp} {ad : Nat → Nat} {z : zS}
theorem colL_31 {M : List Nat} {K : List (Nat × Nat)} (hL : zL M K) (hM : M.length ≤ 1500) {l : Nat} : ∀ t, colL M K l = some t → t < 2 ^ 31 := fun t ht => by
  have h1 := colL_lt ht
  have h2 := hL.f_le l
  omega
theorem m_headStop_aux (h : zMP b f ad z) (hB : zB (z.1 2)) (hL : zL (z.1 2) z.2.2.1) {from_ to_ : Nat} (hf : from_ < 2 ^ 30) (ht : to_ < 2 ^ 30) {post : Int32 → xhp → Prop} : ∀ n l, to_ - l = n → l < 2 ^ 30 → post (nI (hdF (z.1 2) z.2.2.1 from_ to_ n l)) f → w_Ma_headStop_2 post (n + 1) (zml ad) (nI from_) (nI to_) (nI l) f := by
  have hlen := h.len (j := 2) (by decide)
  intro n
  induction n with
  | zero =>
    intro l hl h30 hp
    exact ⟨fun _ => hp, fun c => absurd (nI_le (by omega) (by omega)) c⟩
  | succ n ih =>
    intro l hl h30 hp
    simp only [hdF, if_pos (show l < to_ by omega)] at hp
    have next : (from_ < l ∧ blk (z.1 2) z.2.2.1 l = true) ∨ colL (z.1 2) z.2.2.1 l ≠ none → w_Ma_headStop_2 post (n + 1) (zml ad) (nI from_) (nI to_) (nI l + 1) f := fun hh => by
      rw [if_pos hh] at hp
      rw [nI_1]; exact ih (l + 1) (by omega) (by omega) hp
    have k25 : ¬ (from_ < l ∧ blk (z.1 2) z.2.2.1 l = true) → w_Ma_headStop_25 post (w_Ma_headStop_2 post (n + 1)) (zml ad) (nI from_) (nI to_) (nI l) 0 f := fun hh => by
      refine ⟨fun c => absurd rfl c, fun _ => ⟨h.mO, m_colonOf h hB (by omega) hL ⟨fun c => next (Or.inr ?_), fun c => ?_⟩⟩⟩
      · intro e; rw [e] at c; exact c rfl
      · rw [oI_none (colL_31 hL hlen)] at c
        rw [if_neg (by rw [c]; simp [hh])] at hp; exact hp
    refine ⟨fun c => ?_, fun _ => ⟨fun c => k25 ?_, fun c => ⟨h.mO, m_beginsBlank h hB (by omega) hL ⟨fun c2 => k25 ?_, fun c2 => ⟨fun _ => next ?_, fun c3 => absurd c3 (by decide)⟩⟩⟩⟩⟩
    · rw [nI_leI (by omega) (by omega)] at c; omega
    · rw [nI_leI (by omega) (by omega)] at c; omega
    · rw [zb_0] at c2; rw [c2]; simp
    · rw [zb_0, Bool.not_eq_false] at c2
      rw [nI_leI (by omega) (by omega)] at c
      exact Or.inl ⟨by omega, c2⟩
theorem m_headStop (h : zMP b f ad z) (hB : zB (z.1 2)) (hL : zL (z.1 2) z.2.2.1) {from_ to_ : Nat} (hf : from_ < 2 ^ 30) (ht : to_ < 2 ^ 30) {post : Int32 → xhp → Prop} (hp : post (nI (hd (z.1 2) z.2.2.1 from_ to_)) f) : w_Ma_headStop post (zml ad) (nI from_) (nI to_) f :=
  ⟨_, m_headStop_aux h hB hL hf ht (to_ - from_) from_ rfl hf hp⟩
theorem m_fieldLine_aux (h : zMP b f ad z) (hB : zB (z.1 2)) (hL : zL (z.1 2) z.2.2.1) {i to_ : Nat} (hi : i < 20) (hN : zB (z.1 i)) (ht : to_ < 2 ^ 30) {post : Int32 → xhp → Prop} : ∀ n l, to_ - l = n → l < 2 ^ 30 → post (oI (flF (z.1 2) z.2.2.1 (z.1 i) to_ n l)) f → w_Ma_fieldLine_3 post (n + 1) (zml ad) (nI to_) (ro ad i) (nI l) f := by
  have hlen := h.len (j := 2) (by decide)
  have hleni := h.len hi
  intro n
  induction n with
  | zero =>
    intro l hl h30 hp
    exact ⟨fun _ => hp, fun c => absurd (nI_le (by omega) (by omega)) c⟩
  | succ n ih =>
    intro l hl h30 hp
    have hle := hL.f_le l
    simp only [flF, if_pos (show l < to_ by omega)] at hp
    have next : ¬ (colL (z.1 2) z.2.2.1 l = some (lf (z.1 2) z.2.2.1 l + (z.1 i).length) ∧ hasNm (z.1 2) (z.1 i) (lf (z.1 2) z.2.2.1 l) = true) → w_Ma_fieldLine_3 post (n + 1) (zml ad) (nI to_) (ro ad i) (nI l + 1) f := fun hh => by
      rw [if_neg hh] at hp
      rw [nI_1]; exact ih (l + 1) (by omega) (by omega) hp
    refine ⟨fun c => ?_, fun _ => ⟨h.mO, m_startOf h (by omega) ⟨_, h.sz hi, _, h.mb, h.rO (by decide), ?_⟩⟩⟩
    · rw [nI_leI (by omega) (by omega)] at c; omega
    · rw [nI_add]
      refine m_get (h.row (by decide)) ⟨fun c => next (fun hh => ?_), fun c => ⟨_, h.mb, h.rO (by decide), m_hasName h (by decide) hi hB hN (by omega) ⟨fun c2 => next (fun hh => ?_), fun c2 => ⟨h.mO, m_colonOf h hB (by omega) hL ⟨fun c3 => next (fun hh => ?_), fun c3 => ?_⟩⟩⟩⟩⟩
      · have h1 := colL_lt hh.1
        rw [rget_nI (by omega) (by omega), h1.2.2] at c
        exact c rfl
      · rw [zb_0] at c2; rw [c2] at hh; exact absurd hh.2 (by decide)
      · rw [hh.1] at c3; exact c3 rfl
      · rw [zb_0, Bool.not_eq_false] at c2
        have e1 : colL (z.1 2) z.2.2.1 l = some (lf (z.1 2) z.2.2.1 l + (z.1 i).length) := by
          cases hc : colL (z.1 2) z.2.2.1 l with
          | none =>
            rw [hc] at c3
            have h1 := nI_toInt (n := lf (z.1 2) z.2.2.1 l + (z.1 i).length) (by omega)
            rw [← c3] at h1
            have : (oI none).toInt = -1 := by decide
            omega
          | some t =>
            rw [hc] at c3
            have ht := colL_31 hL hlen t hc
            have : t = lf (z.1 2) z.2.2.1 l + (z.1 i).length := (nI_eq ht (by omega)).mp c3
            rw [this]
        rw [if_pos ⟨e1, c2⟩] at hp; exact hp
theorem m_fieldLine (h : zMP b f ad z) (hB : zB (z.1 2)) (hL : zL (z.1 2) z.2.2.1) {i from_ to_ : Nat} (hi : i < 20) (hN : zB (z.1 i)) (hf : from_ < 2 ^ 30) (ht : to_ < 2 ^ 30) {post : Int32 → xhp → Prop} (hp : post (oI (fl (z.1 2) z.2.2.1 (z.1 i) from_ to_)) f) : w_Ma_fieldLine post (zml ad) (nI from_) (nI to_) (ro ad i) f :=
  ⟨_, m_fieldLine_aux h hB hL hi hN ht (to_ - from_) from_ rfl hf hp⟩
end ZM2
