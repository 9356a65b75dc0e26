/-! countFields, entity -/
def nfP (M : List Nat) (K : List (Nat × Nat)) (fr h : Nat) (k : Nat) : Bool := match colL M K (fr + k) with
  | some c => decide (fl M K (sub M (lf M K (fr + k)) c) fr h = some (fr + k))
  | none => false
theorem nfl_eq (M : List Nat) (K : List (Nat × Nat)) (fr h : Nat) : nfl M K fr h = ((List.range (h - fr)).filter (nfP M K fr h)).length := rfl
theorem flF_lt {M : List Nat} {K : List (Nat × Nat)} {N : List Nat} {e : Nat} : ∀ n l t, flF M K N e n l = some t → t < e := by
  intro n
  induction n with
  | zero => intro l t h; cases h
  | succ n ih =>
    intro l t h
    simp only [flF] at h
    split at h
    · split at h
      · cases h; assumption
      · exact ih _ _ h
    · cases h
theorem oI_eq {o : Option Nat} {l : Nat} (h : ∀ t, o = some t → t < 2 ^ 31) (hl : l < 2 ^ 31) : oI o = nI l ↔ o = some l := by
  cases o with
  | none =>
    refine ⟨fun e => ?_, fun e => by cases e⟩
    exfalso
    have h1 := nI_toInt (n := l) hl
    rw [← e] at h1
    have : (oI none).toInt = -1 := by decide
    omega
  | some t =>
    show nI t = nI l ↔ _
    rw [nI_eq (h t rfl) hl]
    exact ⟨fun e => by rw [e], fun e => by cases e; rfl⟩
section ZP3
variable {b f : xhp} {ad sk : Nat → Nat} {Y P M : List Nat} {R : List eT} {lost : Nat} {r : Nat → List Nat} {E : Nat → Nat → Int32} {t : List (Nat × Nat) × Nat × Nat}
theorem m_cf_aux {i fr h_ : Nat} (hi : i < 60) (bM : zB (r 2)) (hL : zL (r 2) t.1) (e4 : E i 4 = nI fr) (e5 : E i 5 = nI h_) (hh : h_ ≤ t.1.length) {post : Int32 → xhp → Prop} (hp : ∀ f' L, zMP b f' ad (va_up r 3 L, va_up E i (va_up (E i) 9 (nI (nfl (r 2) t.1 fr h_))), t) → post (nI (nfl (r 2) t.1 fr h_)) f') : ∀ (n k : Nat) (L : List Nat) (f : xhp), fr ≤ h_ → fr + k + n = h_ → zMP b f ad (va_up r 3 L, E, t) → w_Mp_countFields_20 post (n + 1) (ad 0) (zen ad i) (nI ((List.range k).filter (nfP (r 2) t.1 fr h_)).length) (nI (fr + k)) f := by
  intro n
  induction n with
  | zero =>
    intro k L f hle hk h
    have hKl : t.1.length ≤ 1500 := h.2.2.2.2.1.1
    refine ⟨nI h_, h.eg hi (by decide) e5, fun _ => m_wr (h.e0 i) hi (by decide) (fun f3 h3 => ?_), fun c => absurd (nI_le (by omega) (by omega)) c⟩
    have ek : k = h_ - fr := by omega
    subst ek
    rw [← nfl_eq] at h3 ⊢
    exact hp f3 L h3
  | succ n ih =>
    intro k L f hle hk h
    have hKl : t.1.length ≤ 1500 := h.2.2.2.2.1.1
    have r2 : ∀ L, va_up r 3 L 2 = r 2 := fun L => zup_ne _ _ (by decide)
    -- the next line
    have nx : ∀ f1 L1 c, zMP b f1 ad (va_up r 3 L1, E, t) → c = ((List.range (k + 1)).filter (nfP (r 2) t.1 fr h_)).length → w_Mp_countFields_115 post (w_Mp_countFields_20 post (n + 1)) (ad 0) (zen ad i) (nI c) (nI (fr + k)) f1 := by
      intro f1 L1 c h1 ec
      show w_Mp_countFields_20 post (n + 1) (ad 0) (zen ad i) (nI c) (nI (fr + k) + 1) f1
      rw [nI_1, ec]
      exact ih (k + 1) L1 f1 hle (by omega) h1
    refine ⟨nI h_, h.eg hi (by decide) e5, fun c => absurd c (by rw [nI_leI (by omega) (by omega)]; omega), fun _ => ⟨_, ⟨_, h.2.2.1, rfl⟩, h.mO, m_colonOf h (by dsimp only; rw [r2]; exact bM) (by omega) (by dsimp only; rw [r2]; exact hL) ?_⟩⟩
    dsimp only
    rw [r2]
    cases hc : colL (r 2) t.1 (fr + k) with
    | none =>
      refine ⟨fun _ => nx f L _ h ?_, fun c => absurd rfl c⟩
      rw [lsH_succ, if_neg, List.append_nil]
      unfold nfP
      rw [hc]; exact Bool.false_ne_true
    | some c =>
      have hcl := colL_lt hc
      have hfl := hL.f_le (fr + k)
      have hMl := h.len (j := 2) (by decide)
      dsimp only at hMl
      rw [r2] at hMl
      have e9 : nfP (r 2) t.1 fr h_ k = decide (fl (r 2) t.1 (sub (r 2) (lf (r 2) t.1 (fr + k)) c) fr h_ = some (fr + k)) := by unfold nfP; rw [hc]
      refine ⟨fun q => ?_, fun _ => ⟨_, ⟨_, h.2.2.1, rfl⟩, _, h.vl, h.rO (by decide), m_clear (j := 3) (by decide) h (fun f9 h9 => ⟨_, ⟨_, h9.2.2.1, rfl⟩, _, h9.vl, _, ⟨_, h9.2.2.1, rfl⟩, _, h9.mb, _, ⟨_, h9.2.2.1, rfl⟩, h9.mO, m_startOf h9 (by omega) ⟨h9.rO (by decide), ?_⟩⟩)⟩⟩
      · exfalso
        have := (oI_none (o := some c) (fun t ht => by cases ht; omega)).mp q
        cases this
      · dsimp only at h9 ⊢
        rw [bx_uu] at h9
        rw [zup_ne _ _ (by decide), r2]
        refine m_addRange (i := 2) (j := 3) (a := lf (r 2) t.1 (fr + k)) (e := c) (by decide) (by decide) (by decide) h9 (by omega) (by dsimp only; rw [r2]; omega) (by dsimp only; rw [zup_self]; show 0 + _ ≤ 1500; omega) (fun f17 h17 => ?_)
        dsimp only at h17
        rw [zup_self, r2, bx_uu, List.nil_append] at h17
        refine ⟨_, ⟨_, h17.2.2.1, rfl⟩, nI fr, h17.eg hi (by decide) e4, nI h_, h17.eg hi (by decide) e5, _, ⟨_, h17.2.2.1, rfl⟩, _, h17.vl, h17.mO, m_fieldLine h17 (by dsimp only; rw [r2]; exact bM) (by dsimp only; rw [r2]; exact hL) (i := 3) (by decide) (by dsimp only; rw [zup_self]; exact bM.sub _ _) (by omega) (by omega) ?_⟩
        dsimp only
        rw [r2, zup_self]
        have e0 : oI (fl (r 2) t.1 (sub (r 2) (lf (r 2) t.1 (fr + k)) c) fr h_) = nI (fr + k) ↔ fl (r 2) t.1 (sub (r 2) (lf (r 2) t.1 (fr + k)) c) fr h_ = some (fr + k) := oI_eq (fun t ht => by have := flF_lt _ _ _ ht; omega) (by omega)
        refine ⟨fun q => ?_, fun q => ?_⟩
        · rw [e0] at q
          have := nx f17 _ ((List.range k).filter (nfP (r 2) t.1 fr h_)).length h17 (by rw [lsH_succ, if_neg (by rw [e9, decide_eq_false q]; decide), List.append_nil])
          show w_Mp_countFields_115 post (w_Mp_countFields_20 post (n + 1)) (ad 0) (zen ad i) (_ + 0) _ f17
          rw [Int32.add_zero]; exact this
        · rw [e0] at q
          show w_Mp_countFields_115 post (w_Mp_countFields_20 post (n + 1)) (ad 0) (zen ad i) (_ + 1) _ f17
          rw [nI_1]
          exact nx f17 _ _ h17 (by rw [lsH_succ, if_pos (by rw [e9, decide_eq_true q]), List.length_append]; rfl)
theorem nI_sub' {a c : Nat} (h : c ≤ a) : nI a - nI c = nI (a - c) := by
  have : nI a = nI (a - c) + nI c := by rw [nI_add]; congr 1; omega
  rw [this, Int32.add_sub_cancel]
def sEnt (M : List Nat) (R : List eT) (e w : Int32) : Int32 := match zfind R.length e with
  | none => -1
  | some i => if w = 0 then nI (tK M (lns M) (R.getD i t0)) else if w = 1 then iI (R.getD i t0).1 else if w = 2 then nI (R.getD i t0).2.1 else if w = 3 then zb (aG M (lns M) (R.getD i t0)) else if w = 4 then nI (lf M (lns M) (R.getD i t0).2.2.1) else if w = 5 then nI (if tB M (lns M) (R.getD i t0) < (R.getD i t0).2.2.2.1 then lf M (lns M) (tB M (lns M) (R.getD i t0)) else M.length) else if w = 6 then nI (tH M (lns M) (R.getD i t0) - (R.getD i t0).2.2.1) else if w = 7 then nI ((R.getD i t0).2.2.2.1 - tB M (lns M) (R.getD i t0)) else if w = 8 then nI (R.countP (fun u => u.1 == i + 1)) else if w = 9 then nI (nfl M (lns M) (R.getD i t0).2.2.1 (tH M (lns M) (R.getD i t0))) else -1
theorem m_entity (h : zN b ad f Y P M R lost) {e w : Int32} {post : Int32 → xhp → Prop} (hp : ∀ f', zN b ad f' Y P M R lost → post (sEnt M R e w) f') : w_Mp_entity post (ad 0) e w f := by
  obtain ⟨z, h, hc⟩ := h
  replace hc : zNc z Y P M R lost := hc
  have hN : zN b ad f Y P M R lost := ⟨z, h, hc⟩
  have g := hc.g
  have zm := hc.2.2.2.2.1
  have h60 := hc.2.2.2.2.2.2.1
  have z2 := hc.2.2.1
  have zl := hc.2.2.2.1
  refine ⟨h.O0, m_findE h (by rw [zm]; exact h60) ?_⟩
  rw [zm]
  cases hz : zfind R.length e with
  | none =>
    have e0 : sEnt M R e w = -1 := by unfold sEnt; rw [hz]
    refine ⟨fun _ => ?_, fun a c => (by cases c)⟩
    rw [e0] at hp; exact hp f hN
  | some i =>
    have hi := zfind_lt hz
    have hi60 : i < 60 := by omega
    obtain ⟨ok, hd8, f0, f1, f2, f3, f4, f5, f6, f7, f8, f9, f11⟩ := hc.2.2.2.2.2.2.2.2.2.2.2.2.2 i hi
    have hKl : z.2.2.1.length ≤ 1500 := h.2.2.2.2.1.1
    rw [zl] at hKl
    have hH := tH_le M (lns M) ok.2.1
    have hB := tB_le M (lns M) ok.2.1
    have hto := ok.2.2.1
    have es : sEnt M R e w = if w = 0 then nI (tK M (lns M) (R.getD i t0)) else if w = 1 then iI (R.getD i t0).1 else if w = 2 then nI (R.getD i t0).2.1 else if w = 3 then zb (aG M (lns M) (R.getD i t0)) else if w = 4 then nI (lf M (lns M) (R.getD i t0).2.2.1) else if w = 5 then nI (if tB M (lns M) (R.getD i t0) < (R.getD i t0).2.2.2.1 then lf M (lns M) (tB M (lns M) (R.getD i t0)) else M.length) else if w = 6 then nI (tH M (lns M) (R.getD i t0) - (R.getD i t0).2.2.1) else if w = 7 then nI ((R.getD i t0).2.2.2.1 - tB M (lns M) (R.getD i t0)) else if w = 8 then nI (R.countP (fun u => u.1 == i + 1)) else if w = 9 then nI (nfl M (lns M) (R.getD i t0).2.2.1 (tH M (lns M) (R.getD i t0))) else -1 := by unfold sEnt; rw [hz]
    rw [es] at hp
    clear es
    have n1 : ∀ {a c : Int32}, w = a → a ≠ c → ¬ w = c := fun h1 h2 h3 => h2 (h1.symm.trans h3)
    refine ⟨fun c => (by cases c), fun a c => ?_⟩
    cases c
    refine ⟨fun c => ⟨_, h.eg hi60 (by decide) f0, ?_⟩, fun c => ⟨_, h.eg hi60 (by decide) f1, ?_⟩, fun c => ⟨_, h.eg hi60 (by decide) f2, ?_⟩, fun c => ⟨_, h.eg hi60 (by decide) f3, fun q => ?_, fun q => ?_⟩, fun c => ⟨_, ⟨_, h.2.2.1, rfl⟩, _, h.eg hi60 (by decide) f4, h.mO, m_startOf h (by omega) ?_⟩, fun c => ⟨_, h.eg hi60 (by decide) f6, _, h.eg hi60 (by decide) f7, fun q => ⟨_, ⟨_, h.2.2.1, rfl⟩, _, h.mb, _, h.sz (by decide), ?_⟩, fun q => ⟨_, ⟨_, h.2.2.1, rfl⟩, _, h.eg hi60 (by decide) f6, h.mO, m_startOf h (by omega) ?_⟩⟩, fun c => ⟨_, h.eg hi60 (by decide) f5, _, h.eg hi60 (by decide) f4, ?_⟩, fun c => ⟨_, h.eg hi60 (by decide) f7, _, h.eg hi60 (by decide) f6, ?_⟩, fun c => ⟨_, h.eg hi60 (by decide) f8, ?_⟩, fun c => ⟨h.O0, ?_⟩, fun c0 c1 c2 c3 c4 c5 c6 c7 c8 c9 => ?_⟩
    · rw [if_pos c] at hp; exact hp f hN
    · rw [if_neg (n1 c (by decide)), if_pos c] at hp; exact hp f hN
    · rw [if_neg (n1 c (by decide)), if_neg (n1 c (by decide)), if_pos c] at hp; exact hp f hN
    · rw [if_neg (n1 c (by decide)), if_neg (n1 c (by decide)), if_neg (n1 c (by decide)), if_pos c] at hp
      rw [q] at hp; exact hp f hN
    · rw [if_neg (n1 c (by decide)), if_neg (n1 c (by decide)), if_neg (n1 c (by decide)), if_pos c] at hp
      rw [zb_n0] at q
      rw [q] at hp; exact hp f hN
    · rw [if_neg (n1 c (by decide)), if_neg (n1 c (by decide)), if_neg (n1 c (by decide)), if_neg (n1 c (by decide)), if_pos c] at hp
      rw [z2, zl]; exact hp f hN
    · rw [if_neg (n1 c (by decide)), if_neg (n1 c (by decide)), if_neg (n1 c (by decide)), if_neg (n1 c (by decide)), if_neg (n1 c (by decide)), if_pos c] at hp
      rw [nI_leI (by omega) (by omega)] at q
      rw [if_neg (by omega)] at hp
      rw [z2]; exact hp f hN
    · rw [if_neg (n1 c (by decide)), if_neg (n1 c (by decide)), if_neg (n1 c (by decide)), if_neg (n1 c (by decide)), if_neg (n1 c (by decide)), if_pos c] at hp
      rw [nI_leI (by omega) (by omega)] at q
      rw [if_pos (by omega)] at hp
      rw [z2, zl]; exact hp f hN
    · rw [if_neg (n1 c (by decide)), if_neg (n1 c (by decide)), if_neg (n1 c (by decide)), if_neg (n1 c (by decide)), if_neg (n1 c (by decide)), if_neg (n1 c (by decide)), if_pos c] at hp
      rw [nI_sub' hH.1]; exact hp f hN
    · rw [if_neg (n1 c (by decide)), if_neg (n1 c (by decide)), if_neg (n1 c (by decide)), if_neg (n1 c (by decide)), if_neg (n1 c (by decide)), if_neg (n1 c (by decide)), if_neg (n1 c (by decide)), if_pos c] at hp
      rw [nI_sub' hB.2]; exact hp f hN
    · rw [if_neg (n1 c (by decide)), if_neg (n1 c (by decide)), if_neg (n1 c (by decide)), if_neg (n1 c (by decide)), if_neg (n1 c (by decide)), if_neg (n1 c (by decide)), if_neg (n1 c (by decide)), if_neg (n1 c (by decide)), if_pos c] at hp
      exact hp f hN
    · rw [if_neg (n1 c (by decide)), if_neg (n1 c (by decide)), if_neg (n1 c (by decide)), if_neg (n1 c (by decide)), if_neg (n1 c (by decide)), if_neg (n1 c (by decide)), if_neg (n1 c (by decide)), if_neg (n1 c (by decide)), if_neg (n1 c (by decide)), if_pos c] at hp
      refine ⟨_, h.eg hi60 (by decide) rfl, fun q => ⟨_, h.eg hi60 (by decide) f4, (tH M (lns M) (R.getD i t0) - (R.getD i t0).2.2.1) + 1, ?_⟩, fun q => ⟨_, h.eg hi60 (by decide) rfl, ?_⟩⟩
      · obtain ⟨r, E, t⟩ := z
        dsimp only at z2 zl f4 f5
        have h' : zMP b f ad (va_up r 3 (r 3), E, t) := by rw [zup_id]; exact h
        refine m_cf_aux (i := i) (fr := (R.getD i t0).2.2.1) (h_ := tH M (lns M) (R.getD i t0)) hi60 (by rw [z2]; exact hc.2.2.2.2.2.2.2.2.2.1) (by rw [z2, zl]; exact lns_zL M) f4 f5 (by rw [zl]; omega) (fun f' L h1 => ?_) (tH M (lns M) (R.getD i t0) - (R.getD i t0).2.2.1) 0 (r 3) f hH.1 (by omega) h'
        rw [z2, zl] at h1 ⊢
        refine hp f' ⟨_, h1, ?_⟩
        obtain ⟨y0, y1, y2, yl, ym, yo, y60, bY, bP, bM, yn, y10, y11, yE⟩ := zNc.up3 hc L
        refine ⟨y0, y1, y2, yl, ym, yo, y60, bY, bP, bM, yn, y10, y11, fun j hj => ⟨(yE j hj).1, (yE j hj).2.1, ?_⟩⟩
        obtain ⟨_, _, g0, g1, g2, g3, g4, g5, g6, g7, g8, g9, g11⟩ := yE j hj
        by_cases ej : j = i
        · subst ej
          dsimp only
          rw [zup_self]
          refine ⟨?_, ?_, ?_, ?_, ?_, ?_, ?_, ?_, ?_, ?_, ?_⟩
          · rw [zup_ne _ _ (by decide)]; exact g0
          · rw [zup_ne _ _ (by decide)]; exact g1
          · rw [zup_ne _ _ (by decide)]; exact g2
          · rw [zup_ne _ _ (by decide)]; exact g3
          · rw [zup_ne _ _ (by decide)]; exact g4
          · rw [zup_ne _ _ (by decide)]; exact g5
          · rw [zup_ne _ _ (by decide)]; exact g6
          · rw [zup_ne _ _ (by decide)]; exact g7
          · rw [zup_ne _ _ (by decide)]; exact g8
          · rw [zup_self]; exact Or.inr rfl
          · rw [zup_ne _ _ (by decide)]; exact g11
        · dsimp only
          rw [zup_ne _ _ ej]
          exact ⟨g0, g1, g2, g3, g4, g5, g6, g7, g8, g9, g11⟩
      · rcases f9 with f9 | f9
        · exact absurd f9 q
        · rw [f9]; exact hp f hN
    · rw [if_neg c0, if_neg c1, if_neg c2, if_neg c3, if_neg c4, if_neg c5, if_neg c6, if_neg c7, if_neg c8, if_neg c9] at hp
      exact hp f hN
end ZP3
