/-! what trimming ahead of the search is to the search; unquote -/
theorem fndF_is (w : Nat) (L : List Nat) (e : Nat) : ∀ n q i, fndF w L e n q i < e → L.getD (fndF w L e n q i) 0 = w := by
  intro n
  induction n with
  | zero => intro q i h; exact absurd h (Nat.lt_irrefl _)
  | succ n ih =>
    intro q i
    rw [fndF_eq]
    repeat' split
    · rename_i _ c; intro _; exact c.1
    · exact ih _ _
    · exact ih _ _
    · exact ih _ _
    · intro h; exact absurd h (Nat.lt_irrefl _)
theorem fnd_is {w : Nat} {L : List Nat} {s e : Nat} (h : fnd w L s e < e) : L.getD (fnd w L s e) 0 = w := fndF_is w L e _ _ _ h
theorem fndF_pre (w : Nat) (L : List Nat) {e e' : Nat} (he : e' ≤ e) : ∀ n q i, e - i < n → fndF w L e' n q i = min e' (fndF w L e n q i) := by
  intro n
  induction n with
  | zero => intro q i h; omega
  | succ n ih =>
    intro q i h
    by_cases c : i < e'
    · rw [fndF_eq w L e', fndF_eq w L e, if_pos c, if_pos (show i < e by omega)]
      by_cases c1 : L.getD i 0 = w ∧ q = false
      · rw [if_pos c1, if_pos c1]; omega
      · rw [if_neg c1, if_neg c1]
        by_cases c2 : L.getD i 0 = 34
        · rw [if_pos c2, if_pos c2]; exact ih (!q) (i + 1) (by omega)
        · rw [if_neg c2, if_neg c2]
          by_cases c3 : L.getD i 0 = 92 ∧ q = true
          · rw [if_pos c3, if_pos c3]; exact ih q (i + 2) (by omega)
          · rw [if_neg c3, if_neg c3]; exact ih q (i + 1) (by omega)
    · rw [fndF_eq w L e', if_neg c]
      by_cases ci : i ≤ e
      · rcases fndF_ge w L e (n + 1) q i (by omega) with h1 | h1
        · omega
        · rw [h1]; omega
      · rw [fndF_eq, if_neg (by omega)]; omega
theorem fnd_pre {w : Nat} {L : List Nat} {s e e' : Nat} (he : e' ≤ e) : fnd w L s e' = min e' (fnd w L s e) := by
  unfold fnd
  rw [fndF_fuel w L e' (e' - s + 1) (e - s + 1) false s (by omega) (by omega)]
  exact fndF_pre w L he _ _ _ (by omega)
theorem blk_ne {x : Nat} (h : isBlk x = true) : x ≠ 61 ∧ x ≠ 34 := by
  have : x = 32 ∨ x = 9 := by simpa [isBlk] using h
  omega
theorem fnd_tS {V : List Nat} {t : Nat} : ∀ n s, t - s = n → fnd 61 V s t = fnd 61 V (tS V s t) t := by
  intro n
  induction n with
  | zero => intro s h; unfold tS; rw [skip_end (by omega)]
  | succ n ih =>
    intro s h
    unfold tS
    rw [skp_fuel (by omega)]
    by_cases c : isBlk (V.getD s 0) = true
    · rw [if_pos c]
      have hb := blk_ne c
      have := ih (s + 1) (by omega)
      unfold tS at this
      rw [← this, fnd_over (by decide) (by omega) hb.1]
      unfold ovr
      rw [if_neg hb.2]
    · rw [if_neg c]
theorem skip_mid {V : List Nat} {t q : Nat} : ∀ n s, t - s = n → s ≤ t → tS V s t ≤ q → skip isBlk V s q = skip isBlk V (tS V s t) q := by
  intro n
  induction n with
  | zero => intro s h hs hq; rw [show tS V s t = s from skip_end (by omega)]
  | succ n ih =>
    intro s h hs hq
    unfold tS at hq ⊢
    rw [skp_fuel (show s < t by omega)] at hq ⊢
    by_cases c : isBlk (V.getD s 0) = true
    · rw [if_pos c] at hq ⊢
      have h1 := (skip_le (P := isBlk) (L := V) (i := s + 1) (e := t)).1
      rw [skp_fuel (show s < q by omega), if_pos c]
      exact ih (s + 1) (by omega) (by omega) hq
    · rw [if_neg c]
theorem trR_blk {V : List Nat} {a : Nat} : ∀ e j, trR V a e ≤ j → j < e → isBlk (V.getD j 0) = true := by
  intro e
  induction e with
  | zero => intro j _ h; omega
  | succ e ih =>
    intro j h1 h2
    have e1 : trR V a (e + 1) = if a < e + 1 ∧ isBlk (V.getD e 0) = true then trR V a e else e + 1 := rfl
    rw [e1] at h1
    by_cases c : a < e + 1 ∧ isBlk (V.getD e 0) = true
    · rw [if_pos c] at h1
      by_cases q : j = e
      · subst q; exact c.2
      · exact ih j h1 (by omega)
    · rw [if_neg c] at h1; omega
theorem trR_pre {V : List Nat} {a e' : Nat} (ha : a ≤ e') : ∀ t, e' ≤ t → (∀ j, e' ≤ j → j < t → isBlk (V.getD j 0) = true) → trR V a t = trR V a e' := by
  intro t
  induction t with
  | zero => intro h _; rw [show e' = 0 by omega]
  | succ t ih =>
    intro h hb
    by_cases q : e' = t + 1
    · rw [q]
    · have e1 : trR V a (t + 1) = if a < t + 1 ∧ isBlk (V.getD t 0) = true then trR V a t else t + 1 := rfl
      rw [e1, if_pos ⟨by omega, hb t (by omega) (by omega)⟩]
      exact ih (by omega) (fun j h1 h2 => hb j h1 (by omega))
theorem skip_pre {V : List Nat} {e e' : Nat} (he : e' ≤ e) : ∀ n i, e' - i = n → skip isBlk V i e' < e' → skip isBlk V i e = skip isBlk V i e' := by
  intro n
  induction n with
  | zero => intro i h1 h2; rw [skip_end (by omega)] at h2; omega
  | succ n ih =>
    intro i h1 h2
    rw [skp_fuel (show i < e' by omega)] at h2 ⊢
    rw [skp_fuel (show i < e by omega)]
    by_cases c : isBlk (V.getD i 0) = true
    · rw [if_pos c] at h2 ⊢
      rw [if_pos c]
      exact ih (i + 1) (by omega) h2
    · rw [if_neg c, if_neg c]
theorem skip_all {V : List Nat} {e : Nat} : ∀ n i, e - i = n → i ≤ e → (∀ j, i ≤ j → j < e → isBlk (V.getD j 0) = true) → skip isBlk V i e = e := by
  intro n
  induction n with
  | zero => intro i h1 h2 _; rw [skip_end (by omega)]; omega
  | succ n ih =>
    intro i h1 h2 hb
    rw [skp_fuel (by omega), if_pos (hb i (Nat.le_refl _) (by omega))]
    exact ih (i + 1) (by omega) (by omega) (fun j h3 h4 => hb j (by omega) h4)
theorem skip_blk {V : List Nat} {e : Nat} : ∀ n i, e - i = n → ∀ j, i ≤ j → j < skip isBlk V i e → isBlk (V.getD j 0) = true := by
  intro n
  induction n with
  | zero => intro i h1 j h2 h3; rw [skip_end (by omega)] at h3; omega
  | succ n ih =>
    intro i h1 j h2 h3
    rw [skp_fuel (by omega)] at h3
    by_cases c : isBlk (V.getD i 0) = true
    · rw [if_pos c] at h3
      by_cases q : j = i
      · subst q; exact c
      · exact ih (i + 1) (by omega) j (by omega) h3
    · rw [if_neg c] at h3; omega
/-- trailing blanks make no difference -/
theorem trim_pre {V : List Nat} {i e e' : Nat} (hi : i ≤ e') (he : e' ≤ e) (hb : ∀ j, e' ≤ j → j < e → isBlk (V.getD j 0) = true) : trim V i e' = trim V i e := by
  have h1 := skip_le (P := isBlk) (L := V) (i := i) (e := e')
  unfold trim tE
  by_cases c : tS V i e' < e'
  · have e1 : tS V i e = tS V i e' := skip_pre he _ _ rfl c
    rw [e1, trR_pre (by omega) e he hb]
  · have e1 : tS V i e' = e' := by have : tS V i e' ≤ e' := h1.2 hi; omega
    have e2 : tS V i e = e := by
      refine skip_all _ _ rfl (by omega) (fun j h3 h4 => ?_)
      by_cases q : j < e'
      · exact skip_blk (e := e') _ _ rfl j h3 (by unfold tS at e1; omega)
      · exact hb j (by omega) h4
    rw [e1, e2, sub_nil (trR_le V e' e').1, sub_nil (trR_le V e e).1]
theorem unqF_eq (W : List Nat) (t n i : Nat) : unqF W t (n + 1) i = if i < t then (if W.getD i 0 = 92 then W.getD (i + 1) 0 :: unqF W t n (i + 2) else W.getD i 0 :: unqF W t n (i + 1)) else [] := rfl
theorem unqF_fuel (W : List Nat) (t : Nat) : ∀ n m i, t ≤ i + n → t ≤ i + m → unqF W t n i = unqF W t m i := by
  intro n
  induction n with
  | zero =>
    intro m i h1 h2
    cases m with
    | zero => rfl
    | succ m => rw [unqF_eq, if_neg (by omega)]; rfl
  | succ n ih =>
    intro m i h1 h2
    cases m with
    | zero => rw [unqF_eq, if_neg (by omega)]; rfl
    | succ m =>
      rw [unqF_eq, unqF_eq, ih m (i + 2) (by omega) (by omega), ih m (i + 1) (by omega) (by omega)]
theorem cloF_eq (W : List Nat) (n i : Nat) : cloF W (n + 1) i = if i < W.length then (if W.getD i 0 = 34 then some i else if W.getD i 0 = 92 then cloF W n (i + 2) else cloF W n (i + 1)) else none := rfl
theorem cloF_in (W : List Nat) : ∀ n i t, cloF W n i = some t → i ≤ t ∧ t < W.length := by
  intro n
  induction n with
  | zero => intro i t h; cases h
  | succ n ih =>
    intro i t
    rw [cloF_eq]
    repeat' split
    · intro h; cases h; omega
    · intro h; have := ih _ _ h; omega
    · intro h; have := ih _ _ h; omega
    · intro h; cases h
section YU
variable {b : xhp} {ad : Nat → Nat} {V : List Nat}
theorem y_unquote {y : yS} {f : xhp} (h : yM b f ad y) (hV : yV y V) {a e : Nat} (hae : a ≤ e) (he : e ≤ V.length) (e48 : y.2.2.1 48 = nI a) (e49 : y.2.2.1 49 = nI e) {post : xhp → Prop} (hp : ∀ f' y', yM b f' ad y' → yK [52] [53] y y' → yGt y' (unq (sub V a e)) → post f') : w_Mo_unquote post (ad 57) f := by
  have hl := hV.2.2.1
  have bV := hV.2.2.2
  obtain ⟨W, hW⟩ : ∃ W, W = sub V a e := ⟨_, rfl⟩
  have Wl : W.length = e - a := by rw [hW, sub_len he]
  have Wg : ∀ i, i < e - a → W.getD i 0 = V.getD (a + i) 0 := fun i hi => by rw [hW, sub_get he hi]
  rw [← hW] at hp
  -- all of it
  have whole : ∀ (y1 : yS) (f : xhp), yM b f ad y1 → yK [52] [53] y y1 → unq W = W → w_Mo_unquote_131 post (ad 57) f := by
    intro y1 f h1 k1 eu
    have hV1 := hV.k k1 (by decide) (by decide)
    refine ⟨nI a, ⟨_, h1.2.2.1, by rw [← e48, ← k1.2.2.1 48 (by decide)]; rfl⟩, nI e, ⟨_, h1.2.2.1, by rw [← e49, ← k1.2.2.1 49 (by decide)]; rfl⟩, h1.O, ?_⟩
    refine y_keep (q := false) h1 hV1 he hae (fun f' y' h' k' hG => hp f' y' h' (k1.trans k') ?_)
    rw [eu, hW]; exact hG
  have f29 : unq W = W → w_Mo_unquote_29 post (ad 57) f := by
    intro eu
    refine ⟨nI a, ⟨_, h.2.2.1, by rw [← e48]; rfl⟩, m_ws h rfl (by decide) (by decide) (by decide) (fun f3 h3 => ⟨1, ?_⟩)⟩
    have k3 : yK [52] [53] y (y.1, y.2.1, va_up y.2.2.1 53 0, y.2.2.2) := yK.ws y 0 (by decide)
    exact ⟨fun _ => ⟨fun _ => whole _ f3 h3 k3 eu, fun c => absurd rfl c⟩, fun c => absurd rfl c⟩
  refine ⟨nI a, ⟨_, h.2.2.1, by rw [← e48]; rfl⟩, nI e, ⟨_, h.2.2.1, by rw [← e49]; rfl⟩, fun c => f29 ?_, fun c => ⟨_, ⟨_, h.2.2.1, rfl⟩, nI a, ⟨_, h.2.2.1, by rw [← e48]; rfl⟩, _, _, h.ai 45 (t := 3) rfl (by decide) (by decide), ?_, ?_⟩⟩
  · rw [nI_leI (by omega) (by omega)] at c
    unfold unq
    rw [if_neg (by omega)]
  · rw [nI_leI (by omega) (by omega)] at c
    exact vp_in_nI (by show a < 1500; omega) (by decide)
  · rw [nI_leI (by omega) (by omega)] at c
    rw [nI_cl a (by omega), hV.1 a (by omega), (sb_ch _ (bV a)).2.2.2.1]
    have W0 : W.getD 0 0 = V.getD a 0 := Wg 0 (by omega)
    refine ⟨fun c1 => f29 ?_, fun c1 => ?_⟩
    · unfold unq
      rw [if_neg (fun q => c1 (by rw [← W0]; exact q.2))]
    · have eu : unq W = match clo W with | some t => unqF W t t 1 | none => W := by
        unfold unq
        rw [if_pos ⟨by omega, by rw [W0]; exact c1⟩]
        cases clo W <;> rfl
      refine ⟨nI a, ⟨_, h.2.2.1, by rw [← e48]; rfl⟩, m_ws h rfl (by decide) (by decide) (by decide) (fun f3 h3 => ⟨(W.length + 1) + 1, ?_⟩)⟩
      have k3 : yK [52] [53] y (y.1, y.2.1, va_up y.2.2.1 53 0, y.2.2.2) := yK.ws y 0 (by decide)
      have loop : ∀ (u i n : Nat) (G : List Nat) (y1 : yS) (f : xhp), W.length + 1 ≤ i + u → 1 ≤ i → i ≤ W.length + 1 → W.length ≤ i + n → G.length ≤ i → yM b f ad y1 → yK [52] [53] y y1 → yGt y1 G → (∀ t, cloF W n i = some t → unq W = G ++ unqF W t W.length i) → (cloF W n i = none → unq W = W) → w_Mo_unquote_43 post (u + 1) (ad 57) 1 (nI (a + i)) f := by
        intro u
        induction u with
        | zero =>
          intro i n G y1 f hu hi1 hi2 hn hGi h1 k1 hG hs hnn
          refine ⟨fun q => absurd q (by decide), fun _ => ⟨nI e, ⟨_, h1.2.2.1, by rw [← e49, ← k1.2.2.1 49 (by decide)]; rfl⟩, fun _ => ⟨fun q => absurd q (by decide), fun _ => ⟨nI e, ⟨_, h1.2.2.1, by rw [← e49, ← k1.2.2.1 49 (by decide)]; rfl⟩, fun q => absurd q (by rw [nI_ltI (by omega) (by omega)]; omega), fun _ => whole y1 f h1 k1 (hnn ?_)⟩⟩, fun q => absurd (nI_le (by omega) (by omega)) q⟩⟩
          cases n with
          | zero => rfl
          | succ n => rw [cloF_eq, if_neg (by omega)]
        | succ u ih =>
          intro i n G y1 f hu hi1 hi2 hn hGi h1 k1 hG hs hnn
          have hV1 := hV.k k1 (by decide) (by decide)
          have a45 := h1.ai 45 (t := 3) rfl (by decide) (by decide)
          refine ⟨fun q => absurd q (by decide), fun _ => ⟨nI e, ⟨_, h1.2.2.1, by rw [← e49, ← k1.2.2.1 49 (by decide)]; rfl⟩, fun q => ?_, fun q => ⟨_, ⟨_, h1.2.2.1, rfl⟩, _, _, a45, ?_, ?_⟩⟩⟩
          · rw [nI_leI (by omega) (by omega)] at q
            refine ⟨fun q => absurd q (by decide), fun _ => ⟨nI e, ⟨_, h1.2.2.1, by rw [← e49, ← k1.2.2.1 49 (by decide)]; rfl⟩, fun q2 => absurd q2 (by rw [nI_ltI (by omega) (by omega)]; omega), fun _ => whole y1 f h1 k1 (hnn ?_)⟩⟩
            cases n with
            | zero => rfl
            | succ n => rw [cloF_eq, if_neg (by omega)]
          · rw [nI_leI (by omega) (by omega)] at q
            exact vp_in_nI (by show a + i < 1500; omega) (by decide)
          · rw [nI_leI (by omega) (by omega)] at q
            have hiW : i < W.length := by omega
            obtain ⟨m, rfl⟩ : ∃ m, n = m + 1 := ⟨n - 1, by omega⟩
            rw [cloF_eq, if_pos hiW] at hs hnn
            rw [nI_cl (a + i) (by omega), hV1.1 (a + i) (by omega), ← Wg i (by omega), (sb_ch _ (by rw [Wg i (by omega)]; exact bV _)).2.2.2.1]
            -- one byte more, at j
            have add : ∀ (j : Nat) (G1 : List Nat), j = i ∨ j = i + 1 → (j < W.length → G1 = G ++ [W.getD j 0]) → (W.length ≤ j → G1 = G) → (∀ t, cloF W m (j + 1) = some t → unq W = G1 ++ unqF W t W.length (j + 1)) → (cloF W m (j + 1) = none → unq W = W) → w_Mo_unquote_80 post (w_Mo_unquote_43 post (u + 1)) (ad 57) 1 (nI (a + j)) f := by
              intro j G1 hj g1 g2 hs1 hn1
              refine ⟨nI e, ⟨_, h1.2.2.1, by rw [← e49, ← k1.2.2.1 49 (by decide)]; rfl⟩, fun q3 => ?_, fun q3 => ⟨_, ⟨_, h1.2.2.1, rfl⟩, nI G.length, ⟨_, h1.2.2.1, by rw [← hG.2.1]; rfl⟩, _, ⟨_, h1.2.2.1, rfl⟩, _, _, a45, ?_, ?_⟩⟩
              · rw [nI_leI (by omega) (by omega)] at q3
                show w_Mo_unquote_43 post (u + 1) (ad 57) 1 (nI (a + j) + 1) f
                rw [nI_1, Nat.add_assoc]
                rw [g2 (by omega)] at hs1
                exact ih (j + 1) m G y1 f (by omega) (by omega) (by omega) (by omega) (by omega) h1 k1 hG hs1 hn1
              · rw [nI_leI (by omega) (by omega)] at q3
                exact vp_in_nI (by show a + j < 1500; omega) (by decide)
              · rw [nI_leI (by omega) (by omega)] at q3
                have hjW : j < W.length := by omega
                have bj : W.getD j 0 < 256 := by rw [Wg j (by omega)]; exact bV _
                rw [nI_cl (a + j) (by omega), hV1.1 (a + j) (by omega), ← Wg j (by omega)]
                refine m_wa h1 (k := 52) (t := 3) rfl (by decide) (by decide) (sb_all _ bj).1 (by show G.length < 1500; omega) (by omega) (fun f9 h9 => ⟨nI G.length, ⟨_, h9.2.2.1, by rw [← hG.2.1]; rfl⟩, m_ws h9 rfl (by decide) (by decide) (by decide) (fun f12 h12 => ?_)⟩)
                show w_Mo_unquote_43 post (u + 1) (ad 57) 1 (nI (a + j) + 1) f12
                rw [nI_1, Nat.add_assoc]
                rw [g1 hjW] at hs1
                have kk : yK [52] [53] y1 (va_up y1.1 52 (upd (y1.1 52) G.length (sb (W.getD j 0))), y1.2.1, va_up y1.2.2.1 53 (nI G.length + 1), y1.2.2.2) :=
                  (yK.wa y1 _ (by decide)).trans (yK.ws _ _ (by decide))
                have hG' : yGt (va_up y1.1 52 (upd (y1.1 52) G.length (sb (W.getD j 0))), y1.2.1, va_up y1.2.2.1 53 (nI G.length + 1), y1.2.2.2) (G ++ [W.getD j 0]) :=
                  ⟨hG.1.app (by dsimp only; rw [zup_self]), by dsimp only; rw [zup_self, nI_1]; simp, by simp; omega, hG.2.2.2.app (zB.one bj)⟩
                exact ih (j + 1) m (G ++ [W.getD j 0]) _ f12 (by omega) (by omega) (by omega) (by omega) (by simp; omega) h12 (k1.trans kk) hG' hs1 hn1
            refine ⟨fun c2 => ?_, fun c2 => ⟨_, ⟨_, h1.2.2.1, rfl⟩, _, _, a45, vp_in_nI (by show a + i < 1500; omega) (by decide), ?_⟩⟩
            · rw [if_pos c2] at hs
              refine ⟨fun q => absurd q (by decide), fun _ => ⟨nI e, ⟨_, h1.2.2.1, by rw [← e49, ← k1.2.2.1 49 (by decide)]; rfl⟩, fun _ => ?_, fun q2 => absurd (nI_lt (by omega) (by omega)) q2⟩⟩
              refine hp f y1 h1 k1 ?_
              have := hs i rfl
              have e0 : unqF W i W.length i = [] := by
                cases hWl : W.length with
                | zero => rfl
                | succ x => rw [unqF_eq, if_neg (Nat.lt_irrefl _)]
              rw [e0, List.append_nil] at this
              rw [this]; exact hG
            · rw [if_neg c2] at hs hnn
              rw [hV1.1 (a + i) (by omega), ← Wg i (by omega), (sb_ch _ (by rw [Wg i (by omega)]; exact bV _)).2.2.2.2.1]
              have uq : ∀ t, i < t → t < W.length → unqF W t W.length i = if W.getD i 0 = 92 then W.getD (i + 1) 0 :: unqF W t W.length (i + 2) else W.getD i 0 :: unqF W t W.length (i + 1) := by
                intro t h3 h4
                rw [unqF_fuel W t W.length (W.length + 1) i (by omega) (by omega), unqF_eq, if_pos h3]
              refine ⟨fun c3 => ?_, fun c3 => ?_⟩
              · rw [if_neg c3] at hs hnn
                refine add i (G ++ [W.getD i 0]) (Or.inl rfl) (fun _ => rfl) (fun q => by omega) (fun t ht => ?_) hnn
                have h5 := cloF_in _ _ _ _ ht
                rw [hs t ht, uq t (by omega) h5.2, if_neg c3, List.append_assoc]; rfl
              · rw [if_pos c3] at hs hnn
                rw [nI_1]
                show w_Mo_unquote_80 post _ _ 1 (nI (a + (i + 1))) f
                refine add (i + 1) (if i + 1 < W.length then G ++ [W.getD (i + 1) 0] else G) (Or.inr rfl) (fun q => if_pos q) (fun q => if_neg (by omega)) (fun t ht => ?_) hnn
                have h5 := cloF_in _ _ _ _ ht
                rw [hs t ht, uq t (by omega) h5.2, if_pos c3, if_pos (by omega), List.append_assoc]; rfl
      rw [nI_1]
      refine loop (W.length + 1) 1 W.length [] _ f3 (by omega) (Nat.le_refl _) (by omega) (by omega) (Nat.zero_le _) h3 k3 ⟨fun i hi => absurd hi (Nat.not_lt_zero _), by dsimp only; rw [zup_self]; rfl, Nat.zero_le _, zB.nil⟩ (fun t ht => ?_) (fun hn => ?_)
      · have h5 := cloF_in _ _ _ _ ht
        have hclo : clo W = some t := ht
        rw [eu, hclo, List.nil_append]
        exact unqF_fuel W t t W.length 1 (by omega) (by omega)
      · have hclo : clo W = none := hn
        rw [eu, hclo]
end YU
