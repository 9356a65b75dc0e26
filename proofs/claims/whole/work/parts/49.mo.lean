/-! over, trim; and what they are to fnd and trim of the meaning -/
theorem fndF_eq (w : Nat) (L : List Nat) (e n : Nat) (q : Bool) (i : Nat) : fndF w L e (n + 1) q i = if i < e then (if L.getD i 0 = w ∧ q = false then i else if L.getD i 0 = 34 then fndF w L e n (!q) (i + 1) else if L.getD i 0 = 92 ∧ q = true then fndF w L e n q (i + 2) else fndF w L e n q (i + 1)) else e := rfl
theorem fndF_fuel (w : Nat) (L : List Nat) (e : Nat) : ∀ n m q i, e - i < n → e - i < m → fndF w L e n q i = fndF w L e m q i := by
  intro n
  induction n with
  | zero => intro m q i h; omega
  | succ n ih =>
    intro m q i h1 h2
    obtain ⟨m', rfl⟩ : ∃ m', m = m' + 1 := ⟨m - 1, by omega⟩
    rw [fndF_eq, fndF_eq]
    by_cases c : i < e
    · rw [if_pos c, if_pos c, ih m' (!q) (i + 1) (by omega) (by omega), ih m' q (i + 2) (by omega) (by omega), ih m' q (i + 1) (by omega) (by omega)]
    · rw [if_neg c, if_neg c]
/-- behind a quotation: k is in it -/
def ovF (L : List Nat) (e : Nat) : Nat → Nat → Nat
  | 0, _ => e
  | n + 1, k => if k < e then (if L.getD k 0 = 34 then k + 1 else if L.getD k 0 = 92 then ovF L e n (k + 2) else ovF L e n (k + 1)) else e
def ovr (L : List Nat) (p e : Nat) : Nat := if L.getD p 0 = 34 then ovF L e (e - (p + 1) + 1) (p + 1) else p + 1
theorem ovF_eq (L : List Nat) (e n k : Nat) : ovF L e (n + 1) k = if k < e then (if L.getD k 0 = 34 then k + 1 else if L.getD k 0 = 92 then ovF L e n (k + 2) else ovF L e n (k + 1)) else e := rfl
theorem ovF_le (L : List Nat) (e : Nat) : ∀ n k, ovF L e n k ≤ e ∧ (k ≤ e → k ≤ ovF L e n k) := by
  intro n
  induction n with
  | zero => intro k; exact ⟨Nat.le_refl _, fun h => h⟩
  | succ n ih =>
    intro k
    rw [ovF_eq]
    by_cases c : k < e
    · rw [if_pos c]
      by_cases c1 : L.getD k 0 = 34
      · rw [if_pos c1]; omega
      · rw [if_neg c1]
        by_cases c2 : L.getD k 0 = 92
        · rw [if_pos c2]
          have h1 := ih (k + 2)
          refine ⟨h1.1, fun _ => ?_⟩
          by_cases c3 : k + 2 ≤ e
          · have := h1.2 c3; omega
          · cases n with
            | zero => show k ≤ e; omega
            | succ n => rw [ovF_eq, if_neg (by omega)]; omega
        · rw [if_neg c2]
          have h1 := ih (k + 1)
          exact ⟨h1.1, fun _ => by have := h1.2 (by omega); omega⟩
    · rw [if_neg c]; omega
theorem ovr_le (L : List Nat) {p e : Nat} (h : p < e) : p < ovr L p e ∧ ovr L p e ≤ e := by
  unfold ovr
  split
  · have := ovF_le L e (e - (p + 1) + 1) (p + 1)
    exact ⟨by have := this.2 (by omega); omega, this.1⟩
  · omega
theorem fndF_q (w : Nat) (L : List Nat) (e : Nat) : ∀ n m k u, e - k < n → e - k < u → e - ovF L e n k < m → fndF w L e u true k = fndF w L e m false (ovF L e n k) := by
  intro n
  induction n with
  | zero => intro m k u h; omega
  | succ n ih =>
    intro m k u h1 h2 h3
    obtain ⟨u', rfl⟩ : ∃ u', u = u' + 1 := ⟨u - 1, by omega⟩
    rw [fndF_eq]
    rw [ovF_eq] at h3 ⊢
    by_cases c : k < e
    · rw [if_pos c] at h3 ⊢
      rw [if_pos c, if_neg (fun q => by cases q.2)]
      by_cases c1 : L.getD k 0 = 34
      · rw [if_pos c1] at h3 ⊢
        rw [if_pos c1]
        exact fndF_fuel w L e u' m false (k + 1) (by omega) h3
      · rw [if_neg c1] at h3 ⊢
        rw [if_neg c1]
        by_cases c2 : L.getD k 0 = 92
        · rw [if_pos c2] at h3 ⊢
          rw [if_pos ⟨c2, rfl⟩]
          by_cases c3 : e - (k + 2) < n
          · exact ih m (k + 2) u' c3 (by omega) h3
          · have hn : n = 0 := by omega
            have : e ≤ k + 1 := by omega
            subst hn
            have e1 : ovF L e 0 (k + 2) = e := rfl
            rw [e1] at h3 ⊢
            obtain ⟨m', rfl⟩ : ∃ m', m = m' + 1 := ⟨m - 1, by omega⟩
            rw [fndF_eq w L e m', if_neg (Nat.lt_irrefl _)]
            cases u' with
            | zero => rfl
            | succ u' => rw [fndF_eq, if_neg (by omega)]
        · rw [if_neg c2] at h3 ⊢
          rw [if_neg (fun q => c2 q.1)]
          by_cases c3 : e - (k + 1) < n
          · exact ih m (k + 1) u' c3 (by omega) h3
          · have hn : n = 0 := by omega
            have : e ≤ k + 1 := by omega
            subst hn
            have e1 : ovF L e 0 (k + 1) = e := rfl
            rw [e1] at h3 ⊢
            obtain ⟨m', rfl⟩ : ∃ m', m = m' + 1 := ⟨m - 1, by omega⟩
            rw [fndF_eq w L e m', if_neg (Nat.lt_irrefl _)]
            cases u' with
            | zero => rfl
            | succ u' => rw [fndF_eq, if_neg (by omega)]
    · rw [if_neg c] at h3 ⊢
      rw [if_neg c]
      obtain ⟨m', rfl⟩ : ∃ m', m = m' + 1 := ⟨m - 1, by omega⟩
      rw [fndF_eq, if_neg (Nat.lt_irrefl _)]
/-- one step of the search: over what stands here -/
theorem fnd_over {w : Nat} {L : List Nat} {p e : Nat} (hw : w ≠ 34) (h : p < e) (hn : L.getD p 0 ≠ w) : fnd w L p e = fnd w L (ovr L p e) e := by
  unfold fnd ovr
  rw [fndF_eq, if_pos h, if_neg (fun q => hn q.1)]
  by_cases c : L.getD p 0 = 34
  · rw [if_pos c, if_pos c]
    exact fndF_q w L e (e - (p + 1) + 1) _ (p + 1) _ (by omega) (by omega) (by omega)
  · rw [if_neg c, if_neg (fun q => by cases q.2), if_neg c]
    exact fndF_fuel w L e _ _ false (p + 1) (by omega) (by omega)
theorem fnd_here {w : Nat} {L : List Nat} {p e : Nat} (h : p < e) (hn : L.getD p 0 = w) : fnd w L p e = p := by
  unfold fnd
  rw [fndF_eq, if_pos h, if_pos ⟨hn, rfl⟩]
theorem fnd_end {w : Nat} {L : List Nat} {p e : Nat} (h : e ≤ p) : fnd w L p e = e := by
  unfold fnd
  rw [fndF_eq, if_neg (by omega)]
section YO
variable {b : xhp} {ad : Nat → Nat} {V : List Nat}
theorem y_over {y : yS} {f : xhp} (h : yM b f ad y) (hV : yV y V) {p e : Nat} (hp0 : p < e) (he : e ≤ V.length) {post : Int32 → xhp → Prop} (hp : post (nI (ovr V p e)) f) : w_Mo_over post (ad 57) (nI p) (nI e) f := by
  have hl := hV.2.2.1
  have a45 := h.ai 45 (t := 3) rfl (by decide) (by decide)
  refine ⟨_, ⟨_, h.2.2.1, rfl⟩, _, _, a45, vp_in_nI (by show p < 1500; omega) (by decide), ?_⟩
  rw [nI_cl p (by omega), hV.1 p (by omega), (sb_ch _ (hV.2.2.2 p)).2.2.2.1]
  unfold ovr at hp
  refine ⟨fun c => ?_, fun c => ?_⟩
  · rw [if_pos c] at hp
    have loop : ∀ n k, e - k < n → k < 2 ^ 30 → post (nI (ovF V e n k)) f → w_Mo_over_19 post n (ad 57) (nI e) (nI k) f := by
      intro n
      induction n with
      | zero => intro k h1; omega
      | succ n ih =>
        intro k h1 hk30 hq
        rw [ovF_eq] at hq
        refine ⟨fun c1 => ?_, fun c1 => ⟨_, ⟨_, h.2.2.1, rfl⟩, _, _, a45, ?_, ?_⟩⟩
        · rw [nI_leI (by omega) (by omega)] at c1
          rw [if_neg (by omega)] at hq
          exact ⟨fun _ => hq, fun c2 => absurd (nI_le c1 (by omega)) c2⟩
        · rw [nI_leI (by omega) (by omega)] at c1
          exact vp_in_nI (by show k < 1500; omega) (by decide)
        · rw [nI_leI (by omega) (by omega)] at c1
          rw [if_pos (by omega)] at hq
          rw [nI_cl k (by omega), hV.1 k (by omega), (sb_ch _ (hV.2.2.2 k)).2.2.2.1]
          refine ⟨fun c2 => ?_, fun c2 => ⟨_, ⟨_, h.2.2.1, rfl⟩, _, _, a45, vp_in_nI (by show k < 1500; omega) (by decide), ?_⟩⟩
          · rw [if_pos c2] at hq
            refine ⟨fun c3 => absurd c3 (by rw [nI_leI (by omega) (by omega)]; omega), fun _ => ?_⟩
            show post (nI k + 1) f
            rw [nI_1]; exact hq
          · rw [if_neg c2] at hq
            rw [hV.1 k (by omega), (sb_ch _ (hV.2.2.2 k)).2.2.2.2.1]
            refine ⟨fun c3 => ?_, fun c3 => ?_⟩
            · rw [if_neg c3] at hq
              show w_Mo_over_19 post n (ad 57) (nI e) (nI k + 1) f
              rw [nI_1]
              exact ih (k + 1) (by omega) (by omega) hq
            · rw [if_pos c3] at hq
              show w_Mo_over_19 post n (ad 57) (nI e) (nI k + 2) f
              rw [show (2 : Int32) = nI 2 from rfl, nI_add]
              by_cases c4 : e - (k + 2) < n
              · exact ih (k + 2) c4 (by omega) hq
              · exfalso; omega
    refine ⟨e - (p + 1) + 1, ?_⟩
    rw [nI_1]
    exact loop _ _ (by omega) (by omega) hp
  · rw [if_neg c] at hp
    rw [nI_1]; exact hp
theorem skp_fuel {P : Nat → Bool} {L : List Nat} {e i : Nat} (h : i < e) : skip P L i e = if P (L.getD i 0) = true then skip P L (i + 1) e else i := by
  unfold skip
  obtain ⟨m, hm⟩ : ∃ m, e - i = m + 1 := ⟨e - i - 1, by omega⟩
  rw [hm, show e - (i + 1) = m by omega]
  show (if _ then _ else _) = _
  rw [if_pos h]
theorem skip_end {P : Nat → Bool} {L : List Nat} {e i : Nat} (h : e ≤ i) : skip P L i e = i := by
  unfold skip
  rw [show e - i = 0 by omega]; rfl
/-- trim: from and to -/
theorem y_trim {y : yS} {f : xhp} (h : yM b f ad y) (hV : yV y V) {s e : Nat} (hse : s ≤ e) (he : e ≤ V.length) {post : xhp → Prop} (hp : ∀ f', yM b f' ad (y.1, y.2.1, va_up (va_up y.2.2.1 48 (nI (tS V s e))) 49 (nI (tE V s e)), y.2.2.2) → post f') : w_Mo_trim post (ad 57) (nI s) (nI e) f := by
  have hl := hV.2.2.1
  refine m_ws h rfl (by decide) (by decide) (by decide) (fun f2 h2 => m_ws h2 rfl (by decide) (by decide) (by decide) (fun f4 h4 => ⟨(e - s) + 1, ?_⟩))
  dsimp only at h4
  -- from the end
  have back : ∀ (a k : Nat) (f : xhp), a ≤ e → k ≤ e → trR V a e = trR V a k → a = tS V s e → yM b f ad (y.1, y.2.1, va_up (va_up y.2.2.1 48 (nI a)) 49 (nI k), y.2.2.2) → w_Mo_trim_49 post (k + 1) (ad 57) f := by
    intro a k
    induction k with
    | zero =>
      intro f hae hke et ea h5
      refine ⟨nI a, ⟨_, h5.2.2.1, rfl⟩, nI 0, ⟨_, h5.2.2.1, rfl⟩, fun _ => ?_, fun c => absurd (nI_le (Nat.zero_le _) (by omega)) c⟩
      refine hp f ?_
      rw [show tE V s e = 0 by unfold tE; rw [← ea, et]; rfl, ← ea]
      exact h5
    | succ k ih =>
      intro f hae hke et ea h5
      have e1 : trR V a (k + 1) = if a < k + 1 ∧ isBlk (V.getD k 0) = true then trR V a k else k + 1 := rfl
      refine ⟨nI a, ⟨_, h5.2.2.1, rfl⟩, nI (k + 1), ⟨_, h5.2.2.1, rfl⟩, fun c => ?_, fun c => ⟨_, ⟨_, h5.2.2.1, rfl⟩, nI (k + 1), ⟨_, h5.2.2.1, rfl⟩, _, _, h5.ai 45 (t := 3) rfl (by decide) (by decide), ?_, ?_⟩⟩
      · rw [nI_leI (by omega) (by omega)] at c
        rw [e1, if_neg (by omega)] at et
        refine hp f ?_
        rw [show tE V s e = k + 1 by unfold tE; rw [← ea, et], ← ea]
        exact h5
      · rw [show (1 : Int32) = nI 1 from rfl, nI_sub' (by omega)]
        exact vp_in_nI (by show k + 1 - 1 < 1500; omega) (by decide)
      · rw [nI_leI (by omega) (by omega)] at c
        rw [show (1 : Int32) = nI 1 from rfl, nI_sub' (by omega), nI_cl (k + 1 - 1) (by omega), Nat.add_sub_cancel]
        rw [hV.1 k (by omega)]
        refine y_blank (hV.2.2.2 k) ⟨fun c1 => ?_, fun c1 => ⟨nI (k + 1), ⟨_, h5.2.2.1, rfl⟩, m_ws h5 rfl (by decide) (by decide) (by decide) (fun f6 h6 => ?_)⟩⟩
        · rw [zb_0] at c1
          rw [e1, if_neg (fun q => by rw [c1] at q; exact absurd q.2 (by decide))] at et
          refine hp f ?_
          rw [show tE V s e = k + 1 by unfold tE; rw [← ea, et], ← ea]
          exact h5
        · rw [zb_n0] at c1
          rw [e1, if_pos ⟨by omega, c1⟩] at et
          dsimp only at h6
          rw [bx_uu, nI_sub' (by omega), Nat.add_sub_cancel] at h6
          exact ih f6 hae (by omega) et ea h6
  have fwd : ∀ (n a : Nat) (f : xhp), e - a = n → a ≤ e → skip isBlk V s e = skip isBlk V a e → yM b f ad (y.1, y.2.1, va_up (va_up y.2.2.1 48 (nI a)) 49 (nI e), y.2.2.2) → w_Mo_trim_10 post (n + 1) (ad 57) f := by
    intro n
    induction n with
    | zero =>
      intro a f hn hae es h5
      have : a = e := by omega
      subst this
      refine ⟨nI a, ⟨_, h5.2.2.1, rfl⟩, nI a, ⟨_, h5.2.2.1, rfl⟩, fun _ => ⟨a + 1, ?_⟩, fun c => absurd (nI_le (Nat.le_refl _) (by omega)) c⟩
      exact back a a f (Nat.le_refl _) (Nat.le_refl _) rfl (by unfold tS; rw [es, skip_end (Nat.le_refl _)]) h5
    | succ n ih =>
      intro a f hn hae es h5
      have hlt : a < e := by omega
      refine ⟨nI a, ⟨_, h5.2.2.1, rfl⟩, nI e, ⟨_, h5.2.2.1, rfl⟩, fun c => absurd c (by rw [nI_leI (by omega) (by omega)]; omega), fun _ => ⟨_, ⟨_, h5.2.2.1, rfl⟩, nI a, ⟨_, h5.2.2.1, rfl⟩, _, _, h5.ai 45 (t := 3) rfl (by decide) (by decide), vp_in_nI (by show a < 1500; omega) (by decide), ?_⟩⟩
      rw [nI_cl a (by omega), hV.1 a (by omega)]
      rw [skp_fuel hlt] at es
      refine y_blank (hV.2.2.2 a) ⟨fun c1 => ⟨e + 1, ?_⟩, fun c1 => ⟨nI a, ⟨_, h5.2.2.1, rfl⟩, m_ws h5 rfl (by decide) (by decide) (by decide) (fun f6 h6 => ?_)⟩⟩
      · rw [zb_0] at c1
        rw [if_neg (by rw [c1]; decide)] at es
        exact back a e f hae (Nat.le_refl _) rfl es.symm h5
      · rw [zb_n0] at c1
        rw [if_pos c1] at es
        dsimp only at h6
        rw [nI_1] at h6
        refine ih (a + 1) f6 (by omega) (by omega) es ?_
        have : va_up (va_up (va_up y.2.2.1 48 (nI a)) 49 (nI e)) 48 (nI (a + 1)) = va_up (va_up y.2.2.1 48 (nI (a + 1))) 49 (nI e) := by
          funext k
          by_cases q : k = 48
          · subst q; rw [zup_self, zup_ne _ _ (by decide), zup_self]
          · rw [zup_ne _ _ q]
            by_cases q2 : k = 49
            · subst q2; rw [zup_self, zup_self]
            · rw [zup_ne _ _ q2, zup_ne _ _ q, zup_ne _ _ q2, zup_ne _ _ q]
        rw [← this]; exact h6
  exact fwd (e - s) s f4 rfl hse rfl h4
end YO
