/-! itemize, keep, firstItem -/
/-- the ITEMS' places, by the semicolons -/
def sgF (V : List Nat) : Nat → Nat → List (Nat × Nat)
  | 0, _ => []
  | n + 1, s => if s ≤ V.length then (s, fnd 59 V s V.length) :: sgF V n (fnd 59 V s V.length + 1) else []
def sgs (V : List Nat) : List (Nat × Nat) := sgF V (V.length + 2) 0
def yIt (y : yS) (V : List Nat) (S : List (Nat × Nat)) : Prop := (∀ i, i < S.length → y.1 50 i = nI (tS V (S.getD i (0, 0)).1 (S.getD i (0, 0)).2) ∧ y.1 51 i = nI (tE V (S.getD i (0, 0)).1 (S.getD i (0, 0)).2)) ∧ y.2.2.1 47 = nI S.length
def yGt (y : yS) (G : List Nat) : Prop := yB y 52 G ∧ y.2.2.1 53 = nI G.length ∧ G.length ≤ 1500 ∧ zB G
theorem yV.k {y y' : yS} {V : List Nat} {as ss : List Nat} (h : yV y V) (hk : yK as ss y y') (h1 : 45 ∉ as) (h2 : 46 ∉ ss) : yV y' V :=
  ⟨fun i hi => by rw [hk.1 45 h1]; exact h.1 i hi, by rw [hk.2.2.1 46 h2]; exact h.2.1, h.2.2⟩
theorem yGt.k {y y' : yS} {V : List Nat} {as ss : List Nat} (h : yGt y V) (hk : yK as ss y y') (h1 : 52 ∉ as) (h2 : 53 ∉ ss) : yGt y' V :=
  ⟨fun i hi => by rw [hk.1 52 h1]; exact h.1 i hi, by rw [hk.2.2.1 53 h2]; exact h.2.1, h.2.2⟩
theorem yIt.k {y y' : yS} {V : List Nat} {S : List (Nat × Nat)} {as ss : List Nat} (h : yIt y V S) (hk : yK as ss y y') (h1 : 50 ∉ as) (h3 : 51 ∉ as) (h2 : 47 ∉ ss) : yIt y' V S :=
  ⟨fun i hi => by rw [hk.1 50 h1, hk.1 51 h3]; exact h.1 i hi, by rw [hk.2.2.1 47 h2]; exact h.2⟩
theorem yWd.k {y y' : yS} {N : List Nat} {kw : Nat} {as ss : List Nat} (h : yWd y kw N) (hk : yK as ss y y') (h1 : kw ∉ as) : yWd y' kw N :=
  ⟨h.1, h.2.1, h.2.2.1, h.2.2.2.1, h.2.2.2.2.1, fun i hi => by rw [hk.1 kw h1]; exact h.2.2.2.2.2 i hi⟩
theorem tSE_le {V : List Nat} {s e : Nat} (h : s ≤ e) : s ≤ tS V s e ∧ tS V s e ≤ tE V s e ∧ tE V s e ≤ e := by
  have h1 := skip_le (P := isBlk) (L := V) (i := s) (e := e)
  have h2 := trR_le V (tS V s e) e
  exact ⟨h1.1, h2.2 (h1.2 h), h2.1⟩
section YI
variable {b : xhp} {ad : Nat → Nat} {V : List Nat}
theorem y_itemize_aux {post : xhp → Prop} : ∀ (u p s n : Nat) (S : List (Nat × Nat)) (y : yS) (f : xhp), V.length + 1 ≤ p + u → s ≤ p → p ≤ V.length + 1 → V.length + 2 ≤ s + n → (p ≤ V.length → fnd 59 V s V.length = fnd 59 V p V.length) → (p = V.length + 1 → s = p) → S.length ≤ s → yM b f ad y → yV y V → yIt y V S → (∀ f' y', yM b f' ad y' → yK [50, 51] [47, 48, 49] y y' → yIt y' V (S ++ sgF V n s) → post f') → w_Mo_itemize_9 post (u + 1) (ad 57) (nI s) (nI p) f := by
  intro u
  induction u with
  | zero =>
    intro p s n S y f hu hsp hp1 hn hfn hps hSs h hV hI hp
    have hl := hV.2.2.1
    have ep : p = V.length + 1 := by omega
    refine ⟨nI V.length, ⟨_, h.2.2.1, by rw [← hV.2.1]; rfl⟩, fun _ => ?_, fun c => absurd (nI_lt (by omega) (by omega)) c⟩
    refine hp f y h (yK.refl y) ?_
    have : sgF V n s = [] := by
      cases n with
      | zero => rfl
      | succ n => show (if _ then _ else _) = _; rw [if_neg (by have := hps ep; omega)]
    rw [this, List.append_nil]; exact hI
  | succ u ih =>
    intro p s n S y f hu hsp hp1 hn hfn hps hSs h hV hI hp
    have hl := hV.2.2.1
    refine ⟨nI V.length, ⟨_, h.2.2.1, by rw [← hV.2.1]; rfl⟩, fun c => ?_, fun c => ?_⟩
    · rw [nI_ltI (by omega) (by omega)] at c
      refine hp f y h (yK.refl y) ?_
      have : sgF V n s = [] := by
        cases n with
        | zero => rfl
        | succ n => show (if _ then _ else _) = _; rw [if_neg (by have := hps (by omega); omega)]
      rw [this, List.append_nil]; exact hI
    · rw [nI_ltI (by omega) (by omega)] at c
      have hpl : p ≤ V.length := by omega
      have efn := hfn hpl
      -- an item ends here
      have item : fnd 59 V p V.length = p → w_Mo_itemize_49 post (w_Mo_itemize_9 post (u + 1)) (ad 57) (nI s) (nI p) f := by
        intro eh
        refine ⟨h.O, y_trim h hV hsp hpl (fun f1 h1 => ?_)⟩
        refine ⟨_, ⟨_, h1.2.2.1, rfl⟩, nI S.length, ⟨_, h1.2.2.1, by rw [← hI.2]; rfl⟩, nI (tS V s p), ⟨_, h1.2.2.1, rfl⟩, m_wa h1 (k := 50) (t := 0) rfl (by decide) (by decide) rfl (by show S.length < 1510; omega) (by omega) (fun f7 h7 => ⟨_, ⟨_, h7.2.2.1, rfl⟩, nI S.length, ⟨_, h7.2.2.1, by rw [← hI.2]; rfl⟩, nI (tE V s p), ⟨_, h7.2.2.1, rfl⟩, m_wa h7 (k := 51) (t := 0) rfl (by decide) (by decide) rfl (by show S.length < 1510; omega) (by omega) (fun f13 h13 => ⟨nI S.length, ⟨_, h13.2.2.1, by rw [← hI.2]; rfl⟩, m_ws h13 rfl (by decide) (by decide) (by decide) (fun f16 h16 => ?_)⟩)⟩)⟩
        dsimp only at h16
        obtain ⟨y2, ey2⟩ : ∃ y2 : yS, y2 = (va_up (va_up y.1 50 (upd (y.1 50) S.length (nI (tS V s p)))) 51 (upd ((va_up y.1 50 (upd (y.1 50) S.length (nI (tS V s p)))) 51) S.length (nI (tE V s p))), y.2.1, va_up (va_up (va_up y.2.2.1 48 (nI (tS V s p))) 49 (nI (tE V s p))) 47 (nI S.length + 1), y.2.2.2) := ⟨_, rfl⟩
        rw [← ey2] at h16
        have kk : yK [50, 51] [47, 48, 49] y y2 := by
          rw [ey2]
          refine ⟨fun k hk => ?_, rfl, fun k hk => ?_, rfl⟩
          · simp only [List.mem_cons, List.not_mem_nil, or_false, not_or] at hk
            dsimp only
            rw [zup_ne _ _ hk.2, zup_ne _ _ hk.1]
          · simp only [List.mem_cons, List.not_mem_nil, or_false, not_or] at hk
            dsimp only
            rw [zup_ne _ _ hk.1, zup_ne _ _ hk.2.2, zup_ne _ _ hk.2.1]
        have hI2 : yIt y2 V (S ++ [(s, p)]) := by
          refine ⟨fun i hi => ?_, by rw [ey2]; dsimp only; rw [zup_self, nI_1]; simp⟩
          simp only [List.length_append, List.length_cons, List.length_nil] at hi
          have e50 : y2.1 50 = upd (y.1 50) S.length (nI (tS V s p)) := by rw [ey2]; dsimp only; rw [zup_ne _ _ (by decide), zup_self]
          have e51 : y2.1 51 = upd (y.1 51) S.length (nI (tE V s p)) := by rw [ey2]; dsimp only; rw [zup_self, zup_ne _ _ (by decide)]
          rw [e50, e51]
          by_cases q : i = S.length
          · subst q
            rw [upd_self, upd_self]
            simp [List.getD]
          · rw [upd_ne _ _ q, upd_ne _ _ q]
            have := hI.1 i (by omega)
            simp only [List.getD_eq_getElem?_getD] at this ⊢
            rw [List.getElem?_append_left (by omega)]
            exact this
        obtain ⟨m, rfl⟩ : ∃ m, n = m + 1 := ⟨n - 1, by omega⟩
        have esg : sgF V (m + 1) s = (s, p) :: sgF V m (p + 1) := by
          show (if _ then _ else _) = _
          rw [if_pos (by omega), efn, eh]
        rw [nI_1]
        refine ih (p + 1) (p + 1) m (S ++ [(s, p)]) y2 f16 (by omega) (Nat.le_refl _) (by omega) (by omega) (fun _ => rfl) (fun _ => rfl) (by simp; omega) h16 (hV.k kk (by decide) (by decide)) hI2 (fun f' y' h' hk' hi' => hp f' y' h' (kk.trans hk') ?_)
        rw [esg]
        rw [List.append_assoc] at hi'
        exact hi'
      refine ⟨nI V.length, ⟨_, h.2.2.1, by rw [← hV.2.1]; rfl⟩, fun c1 => ?_, fun c1 => ⟨_, ⟨_, h.2.2.1, rfl⟩, _, _, h.ai 45 (t := 3) rfl (by decide) (by decide), ?_, ?_⟩⟩
      · rw [nI_leI (by omega) (by omega)] at c1
        have : p = V.length := by omega
        exact item (by rw [fnd_end (by omega)]; omega)
      · rw [nI_leI (by omega) (by omega)] at c1
        exact vp_in_nI (by show p < 1500; omega) (by decide)
      · rw [nI_leI (by omega) (by omega)] at c1
        rw [nI_cl p (by omega), hV.1 p (by omega), (sb_ch _ (hV.2.2.2 p)).2.2.2.2.2.1]
        refine ⟨fun c2 => item (fnd_here (by omega) c2), fun c2 => ⟨nI V.length, ⟨_, h.2.2.1, by rw [← hV.2.1]; rfl⟩, h.O, y_over h hV (by omega) (Nat.le_refl _) ?_⟩⟩
        have ho := ovr_le V (p := p) (e := V.length) (by omega)
        refine ih (ovr V p V.length) s n S y f (by omega) (by omega) (by omega) hn (fun _ => ?_) (fun q => by omega) hSs h hV hI hp
        rw [efn, fnd_over (by decide) (by omega) c2]
theorem y_itemize {y : yS} {f : xhp} (h : yM b f ad y) (hV : yV y V) {post : xhp → Prop} (hp : ∀ f' y', yM b f' ad y' → yK [50, 51] [47, 48, 49] y y' → yIt y' V (sgs V) → post f') : w_Mo_itemize post (ad 57) f := by
  refine m_ws h rfl (by decide) (by decide) (by decide) (fun f2 h2 => ⟨V.length + 1 + 1, ?_⟩)
  have k2 : yK [50, 51] [47, 48, 49] y (y.1, y.2.1, va_up y.2.2.1 47 0, y.2.2.2) := yK.ws y 0 (by decide)
  exact y_itemize_aux (V := V) (V.length + 1) 0 0 (V.length + 2) [] _ f2 (by omega) (Nat.le_refl _) (by omega) (by omega) (fun _ => rfl) (fun q => by omega) (Nat.le_refl _) h2 (hV.k k2 (by decide) (by decide)) ⟨fun i hi => absurd hi (Nat.not_lt_zero _), by dsimp only; rw [zup_self]; rfl⟩ (fun f' y' h' hk' hi' => hp f' y' h' (k2.trans hk') hi')
/-- keep: small or as it is -/
theorem y_keep {y : yS} {f : xhp} (h : yM b f ad y) (hV : yV y V) {s e : Nat} (he : e ≤ V.length) (hs : s ≤ e) {q : Bool} {post : xhp → Prop} (hp : ∀ f' y', yM b f' ad y' → yK [52] [53] y y' → yGt y' (if q = true then (sub V s e).map low else sub V s e) → post f') : w_Mo_keep post (ad 57) (nI s) (nI e) (zb q) f := by
  have hl := hV.2.2.1
  have bV := hV.2.2.2
  refine m_ws h rfl (by decide) (by decide) (by decide) (fun f2 h2 => ⟨(e - s) + 1, ?_⟩)
  have k2 : yK [52] [53] y (y.1, y.2.1, va_up y.2.2.1 53 0, y.2.2.2) := yK.ws y 0 (by decide)
  have loop : ∀ (n a : Nat) (G : List Nat) (y1 : yS) (f : xhp), e - a = n → a ≤ e → G.length ≤ a → yM b f ad y1 → yK [52] [53] y y1 → yGt y1 G → (if q = true then (sub V s e).map low else sub V s e) = G ++ (if q = true then (sub V a e).map low else sub V a e) → w_Mo_keep_8 post (n + 1) (ad 57) (nI e) (zb q) (nI a) f := by
    intro n
    induction n with
    | zero =>
      intro a G y1 f hn hae hGa h1 hk hG eG
      have : a = e := by omega
      subst this
      refine ⟨fun _ => hp f y1 h1 hk ?_, fun c => absurd (nI_le (Nat.le_refl _) (by omega)) c⟩
      rw [eG, sub_nil (Nat.le_refl _)]
      have : G ++ (if q = true then ([] : List Nat).map low else []) = G := by cases q <;> simp
      rw [this]; exact hG
    | succ n ih =>
      intro a G y1 f hn hae hGa h1 hk hG eG
      have hlt : a < e := by omega
      have hV1 := hV.k hk (by decide) (by decide)
      have st : ∀ x s0, x < 256 → s0 = sb x → (if q = true then low (V.getD a 0) else V.getD a 0) = x → w_Mo_keep_47 post (w_Mo_keep_8 post (n + 1)) (ad 57) (nI e) (zb q) (nI a) s0 (nI G.length) (ad 52) f := by
        intro x s0 hx es ex
        subst es
        refine m_wa h1 (k := 52) (t := 3) rfl (by decide) (by decide) (sb_all x hx).1 (by show G.length < 1500; omega) (by omega) (fun f3 h3 => ⟨nI G.length, ⟨_, h3.2.2.1, by rw [← hG.2.1]; rfl⟩, m_ws h3 rfl (by decide) (by decide) (by decide) (fun f6 h6 => ?_)⟩)
        rw [nI_1 a]
        have kk : yK [52] [53] y1 (va_up y1.1 52 (upd (y1.1 52) G.length (sb x)), y1.2.1, va_up y1.2.2.1 53 (nI G.length + 1), y1.2.2.2) :=
          (yK.wa y1 _ (by decide)).trans (yK.ws _ _ (by decide))
        have hG' : yGt (va_up y1.1 52 (upd (y1.1 52) G.length (sb x)), y1.2.1, va_up y1.2.2.1 53 (nI G.length + 1), y1.2.2.2) (G ++ [x]) :=
          ⟨hG.1.app (by dsimp only; rw [zup_self]), by dsimp only; rw [zup_self, nI_1]; simp, by simp; omega, hG.2.2.2.app (zB.one hx)⟩
        refine ih (a + 1) (G ++ [x]) _ f6 (by omega) (by omega) (by simp; omega) h6 (hk.trans kk) hG' ?_
        rw [eG, sub_cons hlt he, List.append_assoc, List.cons_append, List.nil_append]
        congr 1
        rw [← ex]
        cases q <;> simp
      refine ⟨fun c => absurd c (by rw [nI_leI (by omega) (by omega)]; omega), fun _ => ⟨_, ⟨_, h1.2.2.1, rfl⟩, nI G.length, ⟨_, h1.2.2.1, by rw [← hG.2.1]; rfl⟩, fun c => ⟨_, ⟨_, h1.2.2.1, rfl⟩, _, _, h1.ai 45 (t := 3) rfl (by decide) (by decide), vp_in_nI (by show a < 1500; omega) (by decide), ?_⟩, fun c => ⟨_, ⟨_, h1.2.2.1, rfl⟩, _, _, h1.ai 45 (t := 3) rfl (by decide) (by decide), vp_in_nI (by show a < 1500; omega) (by decide), ?_⟩⟩⟩
      · rw [zb_0] at c
        rw [nI_cl a (by omega), hV1.1 a (by omega)]
        exact st _ _ (bV a) rfl (by rw [c]; rfl)
      · rw [zb_n0] at c
        rw [nI_cl a (by omega), hV1.1 a (by omega)]
        exact y_small (bV a) (st (low (V.getD a 0)) _ (low_lt (bV a)) (sb_all _ (low_lt (bV a))).2.2.2 (by rw [if_pos c]))
  exact loop (e - s) s [] _ f2 rfl hs (Nat.zero_le _) h2 k2 ⟨fun i hi => absurd hi (Nat.not_lt_zero _), by dsimp only; rw [zup_self]; rfl, Nat.zero_le _, zB.nil⟩ rfl
end YI
