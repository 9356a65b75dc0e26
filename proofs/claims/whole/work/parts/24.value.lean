/-! Value: closing, unquote, keepFirstItem, keepParameter, isType -/
section ZV3
variable {b f : xhp} {ad : Nat → Nat} {z : zS}
theorem cloF_lt {V : List Nat} : ∀ n i t, cloF V n i = some t → i ≤ t ∧ t < V.length := by
  intro n
  induction n with
  | zero => intro i t h; simp [cloF] at h
  | succ n ih =>
    intro i t h
    simp only [cloF] at h
    split at h
    · split at h
      · cases h; omega
      · split at h
        · have := ih _ _ h; omega
        · have := ih _ _ h; omega
    · cases h
theorem m_closing_aux (h : zMP b f ad z) (hB : zB (z.1 3)) {post : Int32 → xhp → Prop} : ∀ n i, (z.1 3).length ≤ i + n → i < 2 ^ 30 → post (match cloF (z.1 3) n i with | some t => nI t | none => -1) f → w_Va_closing_2 post (n + 1) (zvl ad) (nI i) f := by
  have hl := h.len (j := 3) (by decide)
  intro n
  induction n with
  | zero =>
    intro i hi h30 hp
    exact ⟨_, h.vl, _, h.sz (by decide), fun _ => hp, fun c => absurd (nI_le (by omega) (by omega)) c⟩
  | succ n ih =>
    intro i hi h30 hp
    by_cases hie : i < (z.1 3).length
    · refine ⟨_, h.vl, _, h.sz (by decide), fun c => ?_, fun c => ⟨_, h.vl, h.rO (by decide), m_get (h.row (by decide)) ?_⟩⟩
      · rw [nI_leI (by omega) (by omega)] at c; omega
      · rw [rget_nI (by omega) (by omega)]
        have hb := hB i
        simp only [cloF, if_pos hie] at hp
        have e34 : nI ((z.1 3).getD i 0) = (34 : Int32) ↔ (z.1 3).getD i 0 = 34 := nI_eq (b := 34) (by omega) (by omega)
        have e92 : nI ((z.1 3).getD i 0) = (92 : Int32) ↔ (z.1 3).getD i 0 = 92 := nI_eq (b := 92) (by omega) (by omega)
        refine ⟨fun c1 => ⟨fun c2 => ?_, fun c2 => ?_⟩, fun c1 => ?_⟩
        · rw [e34] at c1; rw [e92] at c2
          rw [if_neg c1, if_neg c2] at hp
          show w_Va_closing_2 post (n + 1) _ (nI i + 1) f
          rw [nI_1]; exact ih (i + 1) (by omega) (by omega) hp
        · rw [e34] at c1; rw [e92] at c2
          rw [if_neg c1, if_pos c2] at hp
          show w_Va_closing_2 post (n + 1) _ (nI i + 1 + 1) f
          rw [nI_1, nI_1]; exact ih (i + 2) (by omega) (by omega) hp
        · rw [e34] at c1
          rw [if_pos c1] at hp; exact hp
    · simp only [cloF, if_neg hie] at hp
      exact ⟨_, h.vl, _, h.sz (by decide), fun _ => hp, fun c => absurd (nI_le (by omega) (by omega)) c⟩
theorem m_closing (h : zMP b f ad z) (hB : zB (z.1 3)) {post : Int32 → xhp → Prop} (hp : post (match clo (z.1 3) with | some t => nI t | none => -1) f) : w_Va_closing post (zvl ad) f :=
  ⟨_, m_closing_aux h hB (z.1 3).length 1 (by omega) (by omega) hp⟩
/-- what was taken, ahead of what stood there -/
def ovL (V O : List Nat) : List Nat := O ++ V.drop O.length
theorem ovL_len {V O : List Nat} (h : O.length ≤ V.length) : (ovL V O).length = V.length := by
  simp only [ovL, List.length_append, List.length_drop]; omega
theorem ovL_get {V O : List Nat} {k : Nat} (h : O.length ≤ k) : (ovL V O).getD k 0 = V.getD k 0 := by
  rw [ovL, gd_app, if_neg (by omega), gd_drop]; congr 1; omega
theorem ovL_step {V O : List Nat} {x : Nat} (h : O.length < V.length) : (ovL V O).set O.length x = ovL V (O ++ [x]) := by
  apply gd_ext
  · rw [List.length_set, ovL_len (by omega), ovL_len (by simp; omega)]
  · intro k hk
    rw [gd_set (by rw [ovL_len (by omega)]; exact h)]
    by_cases e : k = O.length
    · subst e
      rw [if_pos rfl, ovL, gd_app, if_pos (by simp)]
      rw [gd_app, if_neg (by omega)]; simp
    · rw [if_neg e]
      by_cases e2 : k < O.length
      · rw [ovL, ovL, gd_app, if_pos e2, gd_app, if_pos (by simp; omega), gd_app, if_pos e2]
      · rw [ovL_get (by omega), ovL_get (by simp; omega)]
theorem unqF_len {V : List Nat} {t : Nat} : ∀ n i, (unqF V t n i).length ≤ t - i := by
  intro n
  induction n with
  | zero => intro i; simp [unqF]
  | succ n ih =>
    intro i
    simp only [unqF]
    split
    · split
      · have := ih (i + 2); simp; omega
      · have := ih (i + 1); simp; omega
    · simp
theorem m_unquote_aux {V : List Nat} {t : Nat} (hB : zB V) (ht : t < V.length) {post : xhp → Prop} : ∀ n i O (z : zS) (f : xhp), zMP b f ad z → z.1 3 = ovL V O → O.length < i → t ≤ i + n → i < 2 ^ 30 → (∀ f', zMP b f' ad (va_up z.1 3 (O ++ unqF V t n i), z.2) → post f') → w_Va_unquote_32 post (n + 1) (zvl ad) (nI t) (nI O.length) (nI i) f := by
  intro n
  induction n with
  | zero =>
    intro i O z f h hz hO hi h30 hp
    have hl := h.len (j := 3) (by decide)
    by_cases hOV : O.length ≤ V.length
    · have hlen : (z.1 3).length = V.length := by rw [hz]; exact ovL_len hOV
      refine ⟨fun _ => ⟨_, h.vl, h.rO (by decide), m_shorten (by decide) h (by omega) (fun f' hf => hp f' ?_)⟩, fun c => absurd (nI_le (by omega) (by omega)) c⟩
      have e1 : (z.1 3).take O.length = O ++ unqF V t 0 i := by rw [hz]; simp [ovL, unqF]
      rw [e1] at hf; exact hf
    · have hlen : (z.1 3).length = O.length := by rw [hz]; simp [ovL]; omega
      refine ⟨fun _ => ⟨_, h.vl, h.rO (by decide), m_shorten (by decide) h (by omega) (fun f' hf => hp f' ?_)⟩, fun c => absurd (nI_le (by omega) (by omega)) c⟩
      have e1 : (z.1 3).take O.length = O ++ unqF V t 0 i := by rw [hz]; simp [ovL, unqF]
      rw [e1] at hf; exact hf
  | succ n ih =>
    intro i O z f h hz hO hi h30 hp
    have hl := h.len (j := 3) (by decide)
    by_cases hit : i < t
    · have hlen : (z.1 3).length = V.length := by rw [hz]; exact ovL_len (by omega)
      have hbi := hB i
      have hgi : (z.1 3).getD i 0 = V.getD i 0 := by rw [hz]; exact ovL_get (by omega)
      have hgi1 : (z.1 3).getD (i + 1) 0 = V.getD (i + 1) 0 := by rw [hz]; exact ovL_get (by omega)
      refine ⟨fun c => ?_, fun c => ⟨_, h.vl, h.rO (by decide), m_get (h.row (by decide)) ?_⟩⟩
      · rw [nI_leI (by omega) (by omega)] at c; omega
      · rw [rget_nI (by omega) (by omega), hgi]
        have e92 : nI (V.getD i 0) = (92 : Int32) ↔ V.getD i 0 = 92 := nI_eq (b := 92) (by omega) (by omega)
        simp only [unqF, if_pos hit] at hp
        refine ⟨fun c1 => ?_, fun c1 => ?_⟩
        · rw [e92] at c1
          rw [if_neg c1] at hp
          refine ⟨_, h.vl, _, h.vl, h.rO (by decide), m_get (h.row (by decide)) ⟨h.rO (by decide), ?_⟩⟩
          rw [rget_nI (by omega) (by omega), hgi]
          refine m_set (by decide) h (by omega) (fun f' hf => ?_)
          rw [nI_1, nI_1]
          have hz2 : (va_up z.1 3 ((z.1 3).set O.length (V.getD i 0)), z.2).1 3 = ovL V (O ++ [V.getD i 0]) := by
            show va_up z.1 3 ((z.1 3).set O.length (V.getD i 0)) 3 = _
            rw [zup_self, hz]; exact ovL_step (by omega)
          have := ih (i + 1) (O ++ [V.getD i 0]) _ f' hf hz2 (by simp; omega) (by omega) (by omega) (fun f'' hf2 => hp f'' (by
            dsimp only at hf2; rw [bx_uu, List.append_assoc] at hf2; exact hf2))
          simpa using this
        · rw [e92] at c1
          rw [if_pos c1] at hp
          refine ⟨_, h.vl, _, h.vl, h.rO (by decide), ?_⟩
          rw [nI_1 i]
          refine m_get (h.row (by decide)) ⟨h.rO (by decide), ?_⟩
          rw [rget_nI (by omega) (by omega), hgi1]
          refine m_set (by decide) h (by omega) (fun f' hf => ?_)
          rw [nI_1, nI_1]
          have hz2 : (va_up z.1 3 ((z.1 3).set O.length (V.getD (i + 1) 0)), z.2).1 3 = ovL V (O ++ [V.getD (i + 1) 0]) := by
            show va_up z.1 3 ((z.1 3).set O.length (V.getD (i + 1) 0)) 3 = _
            rw [zup_self, hz]; exact ovL_step (by omega)
          have := ih (i + 2) (O ++ [V.getD (i + 1) 0]) _ f' hf hz2 (by simp; omega) (by omega) (by omega) (fun f'' hf2 => hp f'' (by
            dsimp only at hf2; rw [bx_uu, List.append_assoc] at hf2; exact hf2))
          simpa using this
    · simp only [unqF, if_neg hit, List.append_nil] at hp
      have hle : O.length ≤ (z.1 3).length := by rw [hz]; simp [ovL]
      refine ⟨fun _ => ⟨_, h.vl, h.rO (by decide), m_shorten (by decide) h hle (fun f' hf => hp f' ?_)⟩, fun c => absurd (nI_le (by omega) (by omega)) c⟩
      have e1 : (z.1 3).take O.length = O := by rw [hz]; simp [ovL]
      rw [e1] at hf; exact hf
theorem m_unquote (h : zMP b f ad z) (hB : zB (z.1 3)) {post : xhp → Prop} (hp : ∀ f', zMP b f' ad (va_up z.1 3 (unq (z.1 3)), z.2) → post f') : w_Va_unquote post (zvl ad) f := by
  have hl := h.len (j := 3) (by decide)
  have hb0 := hB 0
  have e34 : nI ((z.1 3).getD 0 0) = (34 : Int32) ↔ (z.1 3).getD 0 0 = 34 := nI_eq (b := 34) (by omega) (by omega)
  refine ⟨_, h.vl, h.rO (by decide), m_get (h.row (by decide)) ?_⟩
  by_cases h0 : 0 < (z.1 3).length
  · have er : rget (z.1 3) 0 = nI ((z.1 3).getD 0 0) := rget_nI (i := 0) h0 (by omega)
    rw [er]
    refine ⟨fun c1 => ⟨fun c2 => absurd rfl c2, fun _ => ?_⟩, fun c1 => ⟨h.vO, m_closing h hB ?_⟩⟩
    · rw [e34] at c1
      exact hp f (h.id 3 (by rw [unq, if_neg (fun hh => c1 hh.2)]))
    · rw [e34] at c1
      rw [unq, if_pos ⟨h0, c1⟩] at hp
      cases hc : clo (z.1 3) with
      | none =>
        rw [hc] at hp
        exact ⟨fun c2 => absurd rfl c2, fun _ => hp f (h.id 3 rfl)⟩
      | some t =>
        rw [hc] at hp
        have ht := cloF_lt _ _ _ hc
        refine ⟨fun _ => ⟨t + 1, ?_⟩, fun c2 => ?_⟩
        · have := m_unquote_aux (V := z.1 3) (t := t) hB ht.2 t 1 [] z f h (by simp [ovL]) (by simp) (by omega) (by omega) (post := post) (by simpa using hp)
          exact this
        · have h1 := nI_toInt (n := t) (by omega)
          have h2 : nI t = -1 := c2
          rw [h2] at h1
          have : ((-1 : Int32)).toInt = -1 := by decide
          omega
  · have er : rget (z.1 3) 0 = -1 := rget_out (i := 0) (by omega) (by omega)
    rw [er]
    refine ⟨fun _ => ⟨fun c2 => absurd rfl c2, fun _ => ?_⟩, fun c1 => absurd c1 (by decide)⟩
    exact hp f (h.id 3 (by rw [unq, if_neg (fun hh => h0 hh.1)]))
/-- small, up to i -/
def lowL (V : List Nat) (i : Nat) : List Nat := (V.take i).map low ++ V.drop i
theorem lowL_len {V : List Nat} {i : Nat} : (lowL V i).length = V.length := by
  simp only [lowL, List.length_append, List.length_map, List.length_take, List.length_drop]; omega
theorem lowL_get {V : List Nat} {i k : Nat} (hi : i ≤ V.length) : (lowL V i).getD k 0 = if k < i then low (V.getD k 0) else V.getD k 0 := by
  rw [lowL, gd_app]
  simp only [List.length_map, List.length_take, Nat.min_eq_left hi]
  split
  · rename_i hk
    have : k < V.length := by omega
    simp [List.getD, hk, this]
  · rw [gd_drop]; congr 1; omega
theorem lowL_step {V : List Nat} {i : Nat} (hi : i < V.length) : (lowL V i).set i (low (V.getD i 0)) = lowL V (i + 1) := by
  apply gd_ext
  · rw [List.length_set, lowL_len, lowL_len]
  · intro k hk
    rw [gd_set (by rw [lowL_len]; exact hi), lowL_get (by omega), lowL_get (by omega)]
    by_cases e : k = i
    · subst e; rw [if_pos rfl, if_pos (by omega)]
    · rw [if_neg e]
      by_cases e2 : k < i
      · rw [if_pos e2, if_pos (by omega)]
      · rw [if_neg e2, if_neg (by omega)]
theorem m_firstItem_aux {V : List Nat} (hB : zB V) {post : xhp → Prop} : ∀ n i (z : zS) (f : xhp), zMP b f ad z → z.1 3 = lowL V i → i + n = V.length → (∀ f', zMP b f' ad (va_up z.1 3 (V.map low), z.2) → post f') → w_Va_keepFirstItem_21 post (n + 1) (zvl ad) (nI i) f := by
  intro n
  induction n with
  | zero =>
    intro i z f h hz hi hp
    have hl := h.len (j := 3) (by decide)
    have hlen : (z.1 3).length = V.length := by rw [hz]; exact lowL_len
    refine ⟨_, h.vl, _, h.sz (by decide), fun _ => hp f (h.id 3 ?_), fun c => absurd (nI_le (by omega) (by omega)) c⟩
    rw [hz, lowL, show i = V.length by omega]; simp
  | succ n ih =>
    intro i z f h hz hi hp
    have hl := h.len (j := 3) (by decide)
    have hlen : (z.1 3).length = V.length := by rw [hz]; exact lowL_len
    have hgi : (z.1 3).getD i 0 = V.getD i 0 := by rw [hz, lowL_get (by omega), if_neg (by omega)]
    have hbi := hB i
    refine ⟨_, h.vl, _, h.sz (by decide), fun c => ?_, fun c => ⟨_, h.vl, _, h.vl, h.rO (by decide), m_get (h.row (by decide)) ?_⟩⟩
    · rw [nI_leI (by omega) (by omega)] at c; omega
    · rw [rget_nI (by omega) (by omega), hgi]
      refine m_small (by omega) ⟨h.rO (by decide), m_set (by decide) h (by omega) (fun f' hf => ?_)⟩
      rw [nI_1]
      refine ih (i + 1) _ f' hf ?_ (by omega) (fun f'' hf2 => hp f'' ?_)
      · dsimp only; rw [zup_self, hz]; exact lowL_step (by omega)
      · dsimp only at hf2; rw [bx_uu] at hf2; exact hf2
theorem zB.trim {L : List Nat} (h : zB L) (s e : Nat) : zB (trim L s e) := h.sub _ _
theorem m_keepFirstItem (h : zMP b f ad z) (hB : zB (z.1 3)) {post : xhp → Prop} (hp : ∀ f', zMP b f' ad (va_up z.1 3 (itm (z.1 3)), z.2) → post f') : w_Va_keepFirstItem post (zvl ad) f := by
  have hl := h.len (j := 3) (by decide)
  refine ⟨_, h.vl, _, h.sz (by decide), h.vO, m_find (w := 59) (s := 0) h hB (by decide) (by decide) (Nat.le_refl _) (by decide) ⟨h.vO, m_keep (s := 0) h hB (Nat.zero_le _) fnd_le (fun f' hf => ?_)⟩⟩
  refine ⟨_, m_firstItem_aux (V := trim (z.1 3) 0 (fnd 59 (z.1 3) 0 (z.1 3).length)) (hB.trim _ _) (trim (z.1 3) 0 (fnd 59 (z.1 3) 0 (z.1 3).length)).length 0 _ f' hf ?_ (by omega) (fun f'' hf2 => hp f'' ?_)⟩
  · dsimp only; rw [zup_self]; simp [lowL]
  · dsimp only at hf2; rw [bx_uu] at hf2; exact hf2
theorem m_keepParam_no (h : zMP b f ad z) {post : Int32 → xhp → Prop} (hp0 : ∀ f', zMP b f' ad (va_up z.1 3 [], z.2) → post 0 f') : w_Va_keepParameter_96 post (zvl ad) f :=
  ⟨_, h.vl, h.rO (by decide), m_clear (by decide) h (fun f' hf => ⟨Or.inl rfl, hp0 f' hf⟩)⟩
theorem m_keepParam_aux (h : zMP b f ad z) {i : Nat} (hi : i < 20) (hi3 : i ≠ 3) (hB : zB (z.1 3)) (hN : zB (z.1 i)) {post : Int32 → xhp → Prop} : ∀ n t it, (z.1 3).length ≤ t + n → t < 2 ^ 30 → it ≤ t + 1 → (∀ L, parF (z.1 3) (z.1 i) n (t + 1) = some L → ∀ f', zMP b f' ad (va_up z.1 3 L, z.2) → post 1 f') → (parF (z.1 3) (z.1 i) n (t + 1) = none → ∀ f', zMP b f' ad (va_up z.1 3 [], z.2) → post 0 f') → w_Va_keepParameter_20 post (n + 1) (zvl ad) (ro ad i) (nI (z.1 3).length) (nI t) (nI it) f := by
  have hl := h.len (j := 3) (by decide)
  intro n
  induction n with
  | zero =>
    intro s it hs h30 hit hp1 hp0
    exact ⟨fun _ => m_keepParam_no h (hp0 rfl), fun _ => ⟨fun _ => m_keepParam_no h (hp0 rfl), fun c => absurd (nI_le (by omega) (by omega)) c⟩⟩
  | succ n ih =>
    intro s it hs h30 hit hp1 hp0
    by_cases hsV : s + 1 ≤ (z.1 3).length
    · simp only [parF, if_pos hsV] at hp1 hp0
      refine ⟨fun c => ?_, fun c => ⟨fun c2 => ?_, fun c2 => ⟨h.vO, ?_⟩⟩⟩
      · rw [nI_ltI (by omega) (by omega)] at c; omega
      · rw [nI_leI (by omega) (by omega)] at c2; omega
      · rw [nI_1 s]
        refine m_find (w := 59) h hB (by decide) (by decide) (Nat.le_refl _) (by omega) ⟨h.vO, m_find (w := 61) h hB (by decide) (by decide) fnd_le (by omega) ?_⟩
        have ht := fnd_le (w := 59) (L := z.1 3) (s := s + 1) (e := (z.1 3).length)
        have ht2 := fnd_ge (w := 59) (L := z.1 3) hsV
        generalize fnd 59 (z.1 3) (s + 1) (z.1 3).length = t at ht ht2 hp1 hp0 ⊢
        have hq := fnd_le (w := 61) (L := z.1 3) (s := s + 1) (e := t)
        have hq2 := fnd_ge (w := 61) (L := z.1 3) ht2
        generalize fnd 61 (z.1 3) (s + 1) t = q at hq hq2 hp1 hp0 ⊢
        have next : ¬ (q < t ∧ nameEq (z.1 3) (z.1 i) (s + 1) q = true) → w_Va_keepParameter_20 post (n + 1) (zvl ad) (ro ad i) (nI (z.1 3).length) (nI t) (nI it + 1) f := by
          intro hno
          rw [if_neg hno] at hp1 hp0
          rw [nI_1]
          exact ih t (it + 1) (by omega) (by omega) (by omega) hp1 hp0
        refine ⟨fun c1 => next (fun hh => ?_), fun c1 => ⟨h.vO, m_isNamed h hi hB hN hq2 (by omega) ⟨fun c2 => next (fun hh => ?_), fun c2 => ?_⟩⟩⟩
        · rw [nI_leI (by omega) (by omega)] at c1; omega
        · rw [zb_0] at c2; rw [c2] at hh; exact absurd hh.2 (by decide)
        · rw [zb_0, Bool.not_eq_false] at c2
          rw [nI_leI (by omega) (by omega)] at c1
          rw [if_pos ⟨by omega, c2⟩] at hp1
          refine ⟨h.vO, ?_⟩
          rw [nI_1]
          refine m_keep h hB (by omega) ht (fun f1 hf1 => ⟨hf1.vO, m_unquote hf1 ?_ (fun f2 hf2 => ⟨Or.inr rfl, hp1 _ rfl f2 ?_⟩)⟩)
          · dsimp only; rw [zup_self]; exact hB.trim _ _
          · dsimp only at hf2; rw [zup_self, bx_uu] at hf2; exact hf2
    · simp only [parF, if_neg hsV] at hp1 hp0
      exact ⟨fun _ => m_keepParam_no h (hp0 trivial), fun _ => ⟨fun _ => m_keepParam_no h (hp0 trivial), fun c => absurd (nI_le (by omega) (by omega)) c⟩⟩
/-- keepParameter: its value, or nothing -/
theorem m_keepParam (h : zMP b f ad z) {i : Nat} (hi : i < 20) (hi3 : i ≠ 3) (hB : zB (z.1 3)) (hN : zB (z.1 i)) {post : Int32 → xhp → Prop} (hp1 : ∀ L, par (z.1 3) (z.1 i) = some L → ∀ f', zMP b f' ad (va_up z.1 3 L, z.2) → post 1 f') (hp0 : par (z.1 3) (z.1 i) = none → ∀ f', zMP b f' ad (va_up z.1 3 [], z.2) → post 0 f') : w_Va_keepParameter post (zvl ad) (ro ad i) f := by
  have hl := h.len (j := 3) (by decide)
  have ht := fnd_le (w := 59) (L := z.1 3) (s := 0) (e := (z.1 3).length)
  refine ⟨_, h.vl, _, h.sz (by decide), h.vO, m_find (w := 59) (s := 0) h hB (by decide) (by decide) (Nat.le_refl _) (by decide) ⟨(z.1 3).length + 1 + 1, ?_⟩⟩
  exact m_keepParam_aux h hi hi3 hB hN _ _ 1 (by omega) (by omega) (by omega) hp1 hp0
theorem m_isType_aux (h : zMP b f ad z) (hB : zB (z.1 3)) {post : Int32 → xhp → Prop} : ∀ n sl i, i + n = (z.1 3).length → post (zb (tyF (z.1 3) n sl i)) f → w_Va_isType_4 post (n + 1) (zvl ad) (zb sl) (nI i) f := by
  have hl := h.len (j := 3) (by decide)
  intro n
  induction n with
  | zero =>
    intro sl i hi hp
    exact ⟨_, h.vl, _, h.sz (by decide), fun _ => ⟨by cases sl <;> simp [zb, xz], hp⟩, fun c => absurd (nI_le (by omega) (by omega)) c⟩
  | succ n ih =>
    intro sl i hi hp
    have hbi := hB i
    simp only [tyF] at hp
    refine ⟨_, h.vl, _, h.sz (by decide), fun c => ?_, fun c => ⟨_, h.vl, h.rO (by decide), m_get (h.row (by decide)) ?_⟩⟩
    · rw [nI_leI (by omega) (by omega)] at c; omega
    · rw [rget_nI (by omega) (by omega)]
      have e47 : nI ((z.1 3).getD i 0) = (47 : Int32) ↔ (z.1 3).getD i 0 = 47 := nI_eq (b := 47) (by omega) (by omega)
      refine m_blank (by omega) ⟨fun c1 => ?_, fun c1 => ?_⟩
      · have nb : ¬ isBlk ((z.1 3).getD i 0) = true := fun hh => by rw [if_pos hh] at c1; exact absurd c1 (by decide)
        rw [if_neg nb] at hp
        have goT : (sl || ((z.1 3).getD i 0 == 47 && decide (0 < i) && decide (i < (z.1 3).length - 1))) = true → w_Va_isType_4 post (n + 1) (zvl ad) 1 (nI i + 1) f := by
          intro hh; rw [hh] at hp; rw [nI_1]; exact ih true (i + 1) (by omega) hp
        have goF : (sl || ((z.1 3).getD i 0 == 47 && decide (0 < i) && decide (i < (z.1 3).length - 1))) = false → w_Va_isType_4 post (n + 1) (zvl ad) 0 (nI i + 1) f := by
          intro hh; rw [hh] at hp; rw [nI_1]; exact ih false (i + 1) (by omega) hp
        refine ⟨fun c2 => goT ?_, fun c2 => ⟨fun c3 => goF ?_, fun c3 => ⟨fun c4 => goF ?_, fun c4 => ⟨_, h.vl, _, h.sz (by decide), fun c5 => goF ?_, fun c5 => goT ?_⟩⟩⟩⟩
        · rw [zb_0, Bool.not_eq_false] at c2; simp [c2]
        · rw [zb_0] at c2; rw [e47] at c3; simp only [c2, Bool.false_or, beq_eq_false_iff_ne.mpr c3, Bool.false_and]
        · rw [zb_0] at c2
          have : nI i ≤ nI 0 := c4
          rw [nI_leI (by omega) (by omega)] at this
          simp only [c2, Bool.false_or, decide_eq_false (show ¬ 0 < i by omega), Bool.and_false, Bool.false_and]
        · rw [zb_0] at c2
          have e1 : nI (z.1 3).length - 1 = nI ((z.1 3).length - 1) := pk_sub (b := 1) (by omega)
          rw [e1, nI_leI (by omega) (by omega)] at c5
          simp only [c2, Bool.false_or, decide_eq_false (show ¬ i < (z.1 3).length - 1 by omega), Bool.and_false]
        · rw [e47] at c3
          have h0 : ¬ nI i ≤ nI 0 := c4
          rw [nI_leI (by omega) (by omega)] at h0
          have e1 : nI (z.1 3).length - 1 = nI ((z.1 3).length - 1) := pk_sub (b := 1) (by omega)
          rw [e1, nI_leI (by omega) (by omega)] at c5
          simp only [beq_iff_eq.mpr c3, decide_eq_true (show 0 < i by omega), decide_eq_true (show i < (z.1 3).length - 1 by omega), Bool.and_self, Bool.or_true]
      · have nb : isBlk ((z.1 3).getD i 0) = true := by
          by_cases hh : isBlk ((z.1 3).getD i 0) = true
          · exact hh
          · rw [if_neg hh] at c1; exact absurd rfl c1
        rw [if_pos nb] at hp
        exact ⟨Or.inl rfl, hp⟩
theorem m_isType (h : zMP b f ad z) (hB : zB (z.1 3)) {post : Int32 → xhp → Prop} (hp : post (zb (isTy (z.1 3))) f) : w_Va_isType post (zvl ad) f :=
  ⟨_, m_isType_aux h hB (z.1 3).length false 0 (by omega) hp⟩
end ZV3
