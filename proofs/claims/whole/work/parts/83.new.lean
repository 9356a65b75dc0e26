/-! the reference's CONSTRUCTOR: the arrays in the order of their fields -/
def ypl (ad : Nat → Nat) (n : Nat) : List Value := (List.range 57).map (fun k => if ytg k = 9 then (if k = 36 ∨ k = 37 then .long 0 else .int 0) else if k < n then .ref (ad k) else .null)
def yP (b f : xhp) (p0 n : Nat) (ad : Nat → Nat) (A : Nat → Nat → Int32) : Prop :=
  ad 57 = p0 ∧ (∀ i j, (i = 57 ∨ (i < n ∧ ytg i ≠ 9)) → (j = 57 ∨ (j < n ∧ ytg j ≠ 9)) → ad i = ad j → i = j) ∧ (∀ a, a ≠ p0 → (∀ k, k < n → ytg k ≠ 9 → a ≠ ad k) → f a = b a) ∧ f p0 = some (.inr (5, ypl ad n)) ∧ (∀ k, k < n → ytg k ≠ 9 → f (ad k) = some (.inl (ytg k, yln k, if k = 35 then xbL (fun _ => 0) else xbI (A k)))) ∧ (∀ k, k < n → ytg k ≠ 9 → 17 ≤ k → A k = fun _ => 0) ∧ (∀ k, k < n → k < 17 → ∀ i, i < yln k → A k i = nI ((xbN (ywi k)).getD i 0)) ∧ b p0 = none ∧ ∀ k, k < n → ytg k ≠ 9 → b (ad k) = none
/-- an array is made, and not yet stored -/
def yR (b f : xhp) (p0 n : Nat) (ad : Nat → Nat) (A : Nat → Nat → Int32) (q k : Nat) (g : xbd) : Prop := ∃ f0, yP b f0 p0 n ad A ∧ f0 q = none ∧ f = xup f0 q (.inl (ytg k, yln k, g))
theorem xup_up (f : xhp) (a : Nat) (e e' : xE) : xup (xup f a e) a e' = xup f a e' := by
  funext j
  by_cases h : j = a
  · subst h; rw [xup_self, xup_self]
  · rw [xup_ne _ _ h, xup_ne _ _ h, xup_ne _ _ h]
theorem ypl_set {ad : Nat → Nat} {n k q : Nat} (hk : k < 57) (h9 : ytg k ≠ 9) (hnk : n ≤ k) (hg : ∀ j, j < k → n ≤ j → ytg j = 9) : (ypl ad n).set k (.ref q) = ypl (va_up ad k q) (k + 1) := by
  unfold ypl
  apply List.ext_getElem?
  intro i
  by_cases e : i = k
  · subst e
    rw [List.getElem?_set_self (by simpa using hk), List.getElem?_map, List.getElem?_range hk]
    show some (Value.ref q) = some (if ytg i = 9 then _ else if i < i + 1 then Value.ref (va_up ad i q i) else Value.null)
    rw [if_neg h9, if_pos (by omega), zup_self]
  · rw [List.getElem?_set_ne (fun c => e c.symm), List.getElem?_map, List.getElem?_map]
    by_cases hi : i < 57
    · rw [List.getElem?_range hi]
      show some (if ytg i = 9 then _ else _) = some (if ytg i = 9 then _ else _)
      by_cases hj : ytg i = 9
      · rw [if_pos hj, if_pos hj]
      · rw [if_neg hj, if_neg hj]
        by_cases c : i < n
        · rw [if_pos c, if_pos (by omega), zup_ne _ _ e]
        · by_cases c1 : i < k
          · exact absurd (hg i c1 (by omega)) hj
          · rw [if_neg c, if_neg (by omega)]
    · rw [List.getElem?_eq_none (by simpa using hi)]; rfl
section YI
variable {b : xhp} {p0 : Nat}
theorem y_wd {f : xhp} {n q k m : Nat} {ad : Nat → Nat} {A : Nat → Nat → Int32} {g : Nat → Int32} {mI v : Int32} (h : yR b f p0 n ad A q k (xbI g)) (ht : ytg k = 0) (hm : m < yln k) (hmI : mI = nI m) (hv : v = nI ((xbN (ywi k)).getD m 0)) (hg : ∀ i, i < m → g i = nI ((xbN (ywi k)).getD i 0)) {Q : xhp → Prop} (hp : ∀ f' g', yR b f' p0 n ad A q k (xbI g') → (∀ i, i < m + 1 → g' i = nI ((xbN (ywi k)).getD i 0)) → Q f') : ∃ (n4 : Nat) (g5 : Nat → Int32), xB f q 0 n4 (xbI g5) ∧ vp_in mI n4 ∧ ∀ f6 : xhp, f6 = xup f q (.inl (0, n4, xbI (upd g5 mI.toNatClampNeg v))) → Q f6 := by
  obtain ⟨f0, hP, hq, ef⟩ := h
  have hl := yln_le k
  subst hmI
  refine ⟨yln k, g, by unfold xB; rw [ef, xup_self, ht], vp_in_nI hm (by omega), fun f6 e6 => ?_⟩
  rw [nI_cl m (by omega), ef, xup_up] at e6
  refine hp f6 (upd g m v) ⟨f0, hP, hq, by rw [e6, ht]⟩ (fun i hi => ?_)
  by_cases e : i = m
  · subst e; rw [upd_self, hv]
  · rw [upd_ne _ _ e]; exact hg i (by omega)
theorem y_st {f : xhp} {n q k : Nat} {ad : Nat → Nat} {A : Nat → Nat → Int32} {g : Nat → Int32} {gb : xbd} (h : yR b f p0 n ad A q k gb) (hb : gb = if k = 35 then xbL (fun _ => 0) else xbI g) (hk : k < 57) (h9 : ytg k ≠ 9) (hnk : n ≤ k) (hgap : ∀ j, j < k → n ≤ j → ytg j = 9) (hz : 17 ≤ k → g = fun _ => 0) (hw : k < 17 → ∀ i, i < yln k → g i = nI ((xbN (ywi k)).getD i 0)) {Q : xhp → Prop} (hp : ∀ f' ad' A', yP b f' p0 (k + 1) ad' A' → Q f') : ∃ fs : List Value, f p0 = some (.inr (5, fs)) ∧ k < fs.length ∧ ∀ f2 : xhp, f2 = xup f p0 (.inr (5, fs.set k (.ref q))) → Q f2 := by
  obtain ⟨f0, ⟨e57, inj, out, m0, arr, z0, wd, nb, na⟩, hq, ef⟩ := h
  have np : p0 ≠ q := fun e => by rw [e, hq] at m0; cases m0
  have nq : ∀ j, j < n → ytg j ≠ 9 → ad j ≠ q := fun j h1 h2 e => by have := arr j h1 h2; rw [e, hq] at this; cases this
  have npj : ∀ j, j < n → ytg j ≠ 9 → ad j ≠ p0 := fun j h1 h2 e => by have := inj j 57 (Or.inr ⟨h1, h2⟩) (Or.inl rfl) (by rw [e57]; exact e); have := ytg_57 j h2; omega
  have ee : ∀ i, i < k + 1 → ytg i ≠ 9 → i = k ∨ i < n := fun i h1 h2 => by
    by_cases c : i = k
    · exact Or.inl c
    · by_cases c1 : i < n
      · exact Or.inr c1
      · exact absurd (hgap i (by omega) (by omega)) h2
  have a57 : va_up ad k q 57 = p0 := by rw [zup_ne _ _ (by omega)]; exact e57
  refine ⟨ypl ad n, by rw [ef, xup_ne _ _ np]; exact m0, by unfold ypl; simpa using hk, fun f2 e2 => hp f2 (va_up ad k q) (va_up A k g) ⟨a57, fun i j hi hj e => ?_, fun a ha hn => ?_, ?_, fun j hj h2 => ?_, fun j hj h2 h3 => ?_, fun j hj h2 => ?_, nb, fun j hj h2 => ?_⟩⟩
  · have di : i = k ∨ (i ≠ k ∧ (i = 57 ∨ (i < n ∧ ytg i ≠ 9))) := by
      rcases hi with c | c
      · exact Or.inr ⟨by omega, Or.inl c⟩
      · rcases ee i c.1 c.2 with w | w
        · exact Or.inl w
        · exact Or.inr ⟨by omega, Or.inr ⟨w, c.2⟩⟩
    have dj : j = k ∨ (j ≠ k ∧ (j = 57 ∨ (j < n ∧ ytg j ≠ 9))) := by
      rcases hj with c | c
      · exact Or.inr ⟨by omega, Or.inl c⟩
      · rcases ee j c.1 c.2 with w | w
        · exact Or.inl w
        · exact Or.inr ⟨by omega, Or.inr ⟨w, c.2⟩⟩
    have nqq : ∀ x, x ≠ k → (x = 57 ∨ (x < n ∧ ytg x ≠ 9)) → ad x ≠ q := by
      intro x _ hx
      rcases hx with c | c
      · rw [c, e57]; exact np
      · exact nq x c.1 c.2
    rcases di with c | ⟨c, d⟩
    · rcases dj with c' | ⟨c', d'⟩
      · omega
      · rw [c, zup_self, zup_ne _ _ c'] at e
        exact absurd e.symm (nqq j c' d')
    · rcases dj with c' | ⟨c', d'⟩
      · rw [c', zup_self, zup_ne _ _ c] at e
        exact absurd e (nqq i c d)
      · rw [zup_ne _ _ c, zup_ne _ _ c'] at e
        exact inj i j d d' e
  · have h1 := hn k (by omega) h9
    rw [zup_self] at h1
    rw [e2, xup_ne _ _ ha, ef, xup_ne _ _ h1]
    refine out a ha (fun j hj h2 => ?_)
    have := hn j (by omega) h2
    rw [zup_ne _ _ (by omega)] at this
    exact this
  · rw [e2, xup_self, ypl_set hk h9 hnk hgap]
  · rcases ee j hj h2 with c | c
    · subst c
      rw [zup_self, zup_self, e2, xup_ne _ _ (fun c => np c.symm), ef, xup_self, hb]
    · have c' : j ≠ k := by omega
      rw [zup_ne _ _ c', zup_ne _ _ c', e2, xup_ne _ _ (npj j c h2), ef, xup_ne _ _ (nq j c h2)]
      exact arr j c h2
  · by_cases c : j = k
    · subst c; rw [zup_self]; exact hz h3
    · rw [zup_ne _ _ c]
      rcases ee j hj h2 with c1 | c1
      · exact absurd c1 c
      · exact z0 j c1 h2 h3
  · by_cases c : j = k
    · subst c; rw [zup_self]; exact hw h2
    · rw [zup_ne _ _ c]
      by_cases c1 : j < n
      · exact wd j c1 h2
      · exact absurd (hgap j (by omega) (by omega)) (by
          have key : ∀ j, j < 17 → (ytg j != 9) = true := by decide +kernel
          have := key j h2
          intro w
          rw [w] at this; exact absurd this (by decide))
  · rcases ee j hj h2 with c | c
    · subst c
      rw [zup_self, ← out q (fun c => np c.symm) (fun k hk h => (nq k hk h).symm)]; exact hq
    · rw [zup_ne _ _ (by omega)]; exact na j c h2

set_option maxHeartbeats 4000000 in
set_option maxRecDepth 100000 in
theorem y_init_1295 {post : xhp → Prop} (hp : ∀ f' ad A, yP b f' p0 57 ad A → post f') {nc ns : Nat} (hc : nc + 7 ≤ 60) (hs : ns + 9420 ≤ 30000) {f : xhp} {ad : Nat → Nat} {A : Nat → Nat → Int32} (h : yP b f p0 44 ad A) : w_Mo_init_1295 post 60 30000 nc ns p0 f := by
  refine ⟨400, by decide, rfl, by omega, by omega, fun q f hq e => ?_⟩
  have R : yR b f p0 44 ad A q 44 (xbI (fun _ => 0)) := ⟨_, h, hq, e⟩
  clear hq e h
  refine y_st R (g := fun _ => 0) rfl (by decide) (by decide) (by decide) (by decide) (fun _ => rfl) (fun c => absurd c (by decide)) (fun f ad A h => ?_)
  refine ⟨1500, by decide, rfl, by omega, by omega, fun q f hq e => ?_⟩
  have R : yR b f p0 45 ad A q 45 (xbI (fun _ => 0)) := ⟨_, h, hq, e⟩
  clear hq e h
  refine y_st R (g := fun _ => 0) rfl (by decide) (by decide) (by decide) (by decide) (fun _ => rfl) (fun c => absurd c (by decide)) (fun f ad A h => ?_)
  refine ⟨1510, by decide, rfl, by omega, by omega, fun q f hq e => ?_⟩
  have R : yR b f p0 46 ad A q 50 (xbI (fun _ => 0)) := ⟨_, h, hq, e⟩
  clear hq e h
  refine y_st R (g := fun _ => 0) rfl (by decide) (by decide) (by decide) (by decide) (fun _ => rfl) (fun c => absurd c (by decide)) (fun f ad A h => ?_)
  refine ⟨1510, by decide, rfl, by omega, by omega, fun q f hq e => ?_⟩
  have R : yR b f p0 51 ad A q 51 (xbI (fun _ => 0)) := ⟨_, h, hq, e⟩
  clear hq e h
  refine y_st R (g := fun _ => 0) rfl (by decide) (by decide) (by decide) (by decide) (fun _ => rfl) (fun c => absurd c (by decide)) (fun f ad A h => ?_)
  refine ⟨1500, by decide, rfl, by omega, by omega, fun q f hq e => ?_⟩
  have R : yR b f p0 52 ad A q 52 (xbI (fun _ => 0)) := ⟨_, h, hq, e⟩
  clear hq e h
  refine y_st R (g := fun _ => 0) rfl (by decide) (by decide) (by decide) (by decide) (fun _ => rfl) (fun c => absurd c (by decide)) (fun f ad A h => ?_)
  refine ⟨1500, by decide, rfl, by omega, by omega, fun q f hq e => ?_⟩
  have R : yR b f p0 53 ad A q 54 (xbI (fun _ => 0)) := ⟨_, h, hq, e⟩
  clear hq e h
  refine y_st R (g := fun _ => 0) rfl (by decide) (by decide) (by decide) (by decide) (fun _ => rfl) (fun c => absurd c (by decide)) (fun f ad A h => ?_)
  refine ⟨1500, by decide, rfl, by omega, by omega, fun q f hq e => ?_⟩
  have R : yR b f p0 55 ad A q 56 (xbI (fun _ => 0)) := ⟨_, h, hq, e⟩
  clear hq e h
  refine y_st R (g := fun _ => 0) rfl (by decide) (by decide) (by decide) (by decide) (fun _ => rfl) (fun c => absurd c (by decide)) (fun f ad A h => ?_)
  exact hp f ad A h
set_option maxHeartbeats 4000000 in
set_option maxRecDepth 100000 in
theorem y_init_1227 {post : xhp → Prop} (hp : ∀ f' ad A, yP b f' p0 57 ad A → post f') {nc ns : Nat} (hc : nc + 15 ≤ 60) (hs : ns + 11320 ≤ 30000) {f : xhp} {ad : Nat → Nat} {A : Nat → Nat → Int32} (h : yP b f p0 32 ad A) : w_Mo_init_1227 post 60 30000 nc ns p0 f := by
  refine ⟨60, by decide, rfl, by omega, by omega, fun q f hq e => ?_⟩
  have R : yR b f p0 32 ad A q 32 (xbI (fun _ => 0)) := ⟨_, h, hq, e⟩
  clear hq e h
  refine y_st R (g := fun _ => 0) rfl (by decide) (by decide) (by decide) (by decide) (fun _ => rfl) (fun c => absurd c (by decide)) (fun f ad A h => ?_)
  refine ⟨60, by decide, rfl, by omega, by omega, fun q f hq e => ?_⟩
  have R : yR b f p0 33 ad A q 33 (xbI (fun _ => 0)) := ⟨_, h, hq, e⟩
  clear hq e h
  refine y_st R (g := fun _ => 0) rfl (by decide) (by decide) (by decide) (by decide) (fun _ => rfl) (fun c => absurd c (by decide)) (fun f ad A h => ?_)
  refine ⟨60, by decide, rfl, by omega, by omega, fun q f hq e => ?_⟩
  have R : yR b f p0 34 ad A q 34 (xbI (fun _ => 0)) := ⟨_, h, hq, e⟩
  clear hq e h
  refine y_st R (g := fun _ => 0) rfl (by decide) (by decide) (by decide) (by decide) (fun _ => rfl) (fun c => absurd c (by decide)) (fun f ad A h => ?_)
  refine ⟨60, by decide, rfl, by omega, by omega, fun q f hq e => ?_⟩
  have R : yR b f p0 35 ad A q 35 (xbL (fun _ => 0)) := ⟨_, h, hq, e⟩
  clear hq e h
  refine y_st R (g := fun _ => 0) rfl (by decide) (by decide) (by decide) (by decide) (fun _ => rfl) (fun c => absurd c (by decide)) (fun f ad A h => ?_)
  refine ⟨420, by decide, rfl, by omega, by omega, fun q f hq e => ?_⟩
  have R : yR b f p0 36 ad A q 39 (xbI (fun _ => 0)) := ⟨_, h, hq, e⟩
  clear hq e h
  refine y_st R (g := fun _ => 0) rfl (by decide) (by decide) (by decide) (by decide) (fun _ => rfl) (fun c => absurd c (by decide)) (fun f ad A h => ?_)
  refine ⟨420, by decide, rfl, by omega, by omega, fun q f hq e => ?_⟩
  have R : yR b f p0 40 ad A q 40 (xbI (fun _ => 0)) := ⟨_, h, hq, e⟩
  clear hq e h
  refine y_st R (g := fun _ => 0) rfl (by decide) (by decide) (by decide) (by decide) (fun _ => rfl) (fun c => absurd c (by decide)) (fun f ad A h => ?_)
  refine ⟨420, by decide, rfl, by omega, by omega, fun q f hq e => ?_⟩
  have R : yR b f p0 41 ad A q 41 (xbI (fun _ => 0)) := ⟨_, h, hq, e⟩
  clear hq e h
  refine y_st R (g := fun _ => 0) rfl (by decide) (by decide) (by decide) (by decide) (fun _ => rfl) (fun c => absurd c (by decide)) (fun f ad A h => ?_)
  refine ⟨400, by decide, rfl, by omega, by omega, fun q f hq e => ?_⟩
  have R : yR b f p0 42 ad A q 43 (xbI (fun _ => 0)) := ⟨_, h, hq, e⟩
  clear hq e h
  refine y_st R (g := fun _ => 0) rfl (by decide) (by decide) (by decide) (by decide) (fun _ => rfl) (fun c => absurd c (by decide)) (fun f ad A h => ?_)
  exact y_init_1295 hp (by omega) (by omega) h
set_option maxHeartbeats 4000000 in
set_option maxRecDepth 100000 in
theorem y_init_1159 {post : xhp → Prop} (hp : ∀ f' ad A, yP b f' p0 57 ad A → post f') {nc ns : Nat} (hc : nc + 23 ≤ 60) (hs : ns + 17562 ≤ 30000) {f : xhp} {ad : Nat → Nat} {A : Nat → Nat → Int32} (h : yP b f p0 18 ad A) : w_Mo_init_1159 post 60 30000 nc ns p0 f := by
  refine ⟨1500, by decide, rfl, by omega, by omega, fun q f hq e => ?_⟩
  have R : yR b f p0 18 ad A q 18 (xbI (fun _ => 0)) := ⟨_, h, hq, e⟩
  clear hq e h
  refine y_st R (g := fun _ => 0) rfl (by decide) (by decide) (by decide) (by decide) (fun _ => rfl) (fun c => absurd c (by decide)) (fun f ad A h => ?_)
  refine ⟨1500, by decide, rfl, by omega, by omega, fun q f hq e => ?_⟩
  have R : yR b f p0 19 ad A q 20 (xbI (fun _ => 0)) := ⟨_, h, hq, e⟩
  clear hq e h
  refine y_st R (g := fun _ => 0) rfl (by decide) (by decide) (by decide) (by decide) (fun _ => rfl) (fun c => absurd c (by decide)) (fun f ad A h => ?_)
  refine ⟨1501, by decide, rfl, by omega, by omega, fun q f hq e => ?_⟩
  have R : yR b f p0 21 ad A q 24 (xbI (fun _ => 0)) := ⟨_, h, hq, e⟩
  clear hq e h
  refine y_st R (g := fun _ => 0) rfl (by decide) (by decide) (by decide) (by decide) (fun _ => rfl) (fun c => absurd c (by decide)) (fun f ad A h => ?_)
  refine ⟨1501, by decide, rfl, by omega, by omega, fun q f hq e => ?_⟩
  have R : yR b f p0 25 ad A q 25 (xbI (fun _ => 0)) := ⟨_, h, hq, e⟩
  clear hq e h
  refine y_st R (g := fun _ => 0) rfl (by decide) (by decide) (by decide) (by decide) (fun _ => rfl) (fun c => absurd c (by decide)) (fun f ad A h => ?_)
  refine ⟨60, by decide, rfl, by omega, by omega, fun q f hq e => ?_⟩
  have R : yR b f p0 26 ad A q 28 (xbI (fun _ => 0)) := ⟨_, h, hq, e⟩
  clear hq e h
  refine y_st R (g := fun _ => 0) rfl (by decide) (by decide) (by decide) (by decide) (fun _ => rfl) (fun c => absurd c (by decide)) (fun f ad A h => ?_)
  refine ⟨60, by decide, rfl, by omega, by omega, fun q f hq e => ?_⟩
  have R : yR b f p0 29 ad A q 29 (xbI (fun _ => 0)) := ⟨_, h, hq, e⟩
  clear hq e h
  refine y_st R (g := fun _ => 0) rfl (by decide) (by decide) (by decide) (by decide) (fun _ => rfl) (fun c => absurd c (by decide)) (fun f ad A h => ?_)
  refine ⟨60, by decide, rfl, by omega, by omega, fun q f hq e => ?_⟩
  have R : yR b f p0 30 ad A q 30 (xbI (fun _ => 0)) := ⟨_, h, hq, e⟩
  clear hq e h
  refine y_st R (g := fun _ => 0) rfl (by decide) (by decide) (by decide) (by decide) (fun _ => rfl) (fun c => absurd c (by decide)) (fun f ad A h => ?_)
  refine ⟨60, by decide, rfl, by omega, by omega, fun q f hq e => ?_⟩
  have R : yR b f p0 31 ad A q 31 (xbI (fun _ => 0)) := ⟨_, h, hq, e⟩
  clear hq e h
  refine y_st R (g := fun _ => 0) rfl (by decide) (by decide) (by decide) (by decide) (fun _ => rfl) (fun c => absurd c (by decide)) (fun f ad A h => ?_)
  exact y_init_1227 hp (by omega) (by omega) h
set_option maxHeartbeats 4000000 in
set_option maxRecDepth 100000 in
theorem y_init_1113 {post : xhp → Prop} (hp : ∀ f' ad A, yP b f' p0 57 ad A → post f') {nc ns : Nat} (hc : nc + 25 ≤ 60) (hs : ns + 17588 ≤ 30000) {f : xhp} {ad : Nat → Nat} {A : Nat → Nat → Int32} (h : yP b f p0 16 ad A) : w_Mo_init_1113 post 60 30000 nc ns p0 f := by
  refine ⟨6, by decide, rfl, by omega, by omega, fun q f hq e => ?_⟩
  have R : yR b f p0 16 ad A q 16 (xbI (fun _ => 0)) := ⟨_, h, hq, e⟩
  clear hq e h
  have G : ∀ i, i < 0 → (fun _ => (0 : Int32)) i = nI ((xbN (ywi 16)).getD i 0) := fun i hi => absurd hi (Nat.not_lt_zero _)
  refine y_wd R (m := 0) rfl (by decide) rfl (by decide +kernel) G (fun f g R G => ?_)
  refine y_wd R (m := 1) rfl (by decide) rfl (by decide +kernel) G (fun f g R G => ?_)
  refine y_wd R (m := 2) rfl (by decide) rfl (by decide +kernel) G (fun f g R G => ?_)
  refine y_wd R (m := 3) rfl (by decide) rfl (by decide +kernel) G (fun f g R G => ?_)
  refine y_wd R (m := 4) rfl (by decide) rfl (by decide +kernel) G (fun f g R G => ?_)
  refine y_wd R (m := 5) rfl (by decide) rfl (by decide +kernel) G (fun f g R G => ?_)
  refine y_st R rfl (by decide) (by decide) (by decide) (by decide) (fun c => absurd c (by decide)) (fun _ => G) (fun f ad A h => ?_)
  refine ⟨20, by decide, rfl, by omega, by omega, fun q f hq e => ?_⟩
  have R : yR b f p0 17 ad A q 17 (xbI (fun _ => 0)) := ⟨_, h, hq, e⟩
  clear hq e h
  refine y_st R (g := fun _ => 0) rfl (by decide) (by decide) (by decide) (by decide) (fun _ => rfl) (fun c => absurd c (by decide)) (fun f ad A h => ?_)
  exact y_init_1159 hp (by omega) (by omega) h
set_option maxHeartbeats 4000000 in
set_option maxRecDepth 100000 in
theorem y_init_1059 {post : xhp → Prop} (hp : ∀ f' ad A, yP b f' p0 57 ad A → post f') {nc ns : Nat} (hc : nc + 27 ≤ 60) (hs : ns + 17596 ≤ 30000) {f : xhp} {ad : Nat → Nat} {A : Nat → Nat → Int32} (h : yP b f p0 14 ad A) : w_Mo_init_1059 post 60 30000 nc ns p0 f := by
  refine ⟨4, by decide, rfl, by omega, by omega, fun q f hq e => ?_⟩
  have R : yR b f p0 14 ad A q 14 (xbI (fun _ => 0)) := ⟨_, h, hq, e⟩
  clear hq e h
  have G : ∀ i, i < 0 → (fun _ => (0 : Int32)) i = nI ((xbN (ywi 14)).getD i 0) := fun i hi => absurd hi (Nat.not_lt_zero _)
  refine y_wd R (m := 0) rfl (by decide) rfl (by decide +kernel) G (fun f g R G => ?_)
  refine y_wd R (m := 1) rfl (by decide) rfl (by decide +kernel) G (fun f g R G => ?_)
  refine y_wd R (m := 2) rfl (by decide) rfl (by decide +kernel) G (fun f g R G => ?_)
  refine y_wd R (m := 3) rfl (by decide) rfl (by decide +kernel) G (fun f g R G => ?_)
  refine y_st R rfl (by decide) (by decide) (by decide) (by decide) (fun c => absurd c (by decide)) (fun _ => G) (fun f ad A h => ?_)
  refine ⟨4, by decide, rfl, by omega, by omega, fun q f hq e => ?_⟩
  have R : yR b f p0 15 ad A q 15 (xbI (fun _ => 0)) := ⟨_, h, hq, e⟩
  clear hq e h
  have G : ∀ i, i < 0 → (fun _ => (0 : Int32)) i = nI ((xbN (ywi 15)).getD i 0) := fun i hi => absurd hi (Nat.not_lt_zero _)
  refine y_wd R (m := 0) rfl (by decide) rfl (by decide +kernel) G (fun f g R G => ?_)
  refine y_wd R (m := 1) rfl (by decide) rfl (by decide +kernel) G (fun f g R G => ?_)
  refine y_wd R (m := 2) rfl (by decide) rfl (by decide +kernel) G (fun f g R G => ?_)
  refine y_wd R (m := 3) rfl (by decide) rfl (by decide +kernel) G (fun f g R G => ?_)
  refine y_st R rfl (by decide) (by decide) (by decide) (by decide) (fun c => absurd c (by decide)) (fun _ => G) (fun f ad A h => ?_)
  exact y_init_1113 hp (by omega) (by omega) h
set_option maxHeartbeats 4000000 in
set_option maxRecDepth 100000 in
theorem y_init_997 {post : xhp → Prop} (hp : ∀ f' ad A, yP b f' p0 57 ad A → post f') {nc ns : Nat} (hc : nc + 28 ≤ 60) (hs : ns + 17606 ≤ 30000) {f : xhp} {ad : Nat → Nat} {A : Nat → Nat → Int32} (h : yP b f p0 13 ad A) : w_Mo_init_997 post 60 30000 nc ns p0 f := by
  refine ⟨10, by decide, rfl, by omega, by omega, fun q f hq e => ?_⟩
  have R : yR b f p0 13 ad A q 13 (xbI (fun _ => 0)) := ⟨_, h, hq, e⟩
  clear hq e h
  have G : ∀ i, i < 0 → (fun _ => (0 : Int32)) i = nI ((xbN (ywi 13)).getD i 0) := fun i hi => absurd hi (Nat.not_lt_zero _)
  refine y_wd R (m := 0) rfl (by decide) rfl (by decide +kernel) G (fun f g R G => ?_)
  refine y_wd R (m := 1) rfl (by decide) rfl (by decide +kernel) G (fun f g R G => ?_)
  refine y_wd R (m := 2) rfl (by decide) rfl (by decide +kernel) G (fun f g R G => ?_)
  refine y_wd R (m := 3) rfl (by decide) rfl (by decide +kernel) G (fun f g R G => ?_)
  refine y_wd R (m := 4) rfl (by decide) rfl (by decide +kernel) G (fun f g R G => ?_)
  refine y_wd R (m := 5) rfl (by decide) rfl (by decide +kernel) G (fun f g R G => ?_)
  refine y_wd R (m := 6) rfl (by decide) rfl (by decide +kernel) G (fun f g R G => ?_)
  refine y_wd R (m := 7) rfl (by decide) rfl (by decide +kernel) G (fun f g R G => ?_)
  refine y_wd R (m := 8) rfl (by decide) rfl (by decide +kernel) G (fun f g R G => ?_)
  refine y_wd R (m := 9) rfl (by decide) rfl (by decide +kernel) G (fun f g R G => ?_)
  refine y_st R rfl (by decide) (by decide) (by decide) (by decide) (fun c => absurd c (by decide)) (fun _ => G) (fun f ad A h => ?_)
  exact y_init_1059 hp (by omega) (by omega) h
set_option maxHeartbeats 4000000 in
set_option maxRecDepth 100000 in
theorem y_init_911 {post : xhp → Prop} (hp : ∀ f' ad A, yP b f' p0 57 ad A → post f') {nc ns : Nat} (hc : nc + 29 ≤ 60) (hs : ns + 17620 ≤ 30000) {f : xhp} {ad : Nat → Nat} {A : Nat → Nat → Int32} (h : yP b f p0 12 ad A) : w_Mo_init_911 post 60 30000 nc ns p0 f := by
  refine ⟨14, by decide, rfl, by omega, by omega, fun q f hq e => ?_⟩
  have R : yR b f p0 12 ad A q 12 (xbI (fun _ => 0)) := ⟨_, h, hq, e⟩
  clear hq e h
  have G : ∀ i, i < 0 → (fun _ => (0 : Int32)) i = nI ((xbN (ywi 12)).getD i 0) := fun i hi => absurd hi (Nat.not_lt_zero _)
  refine y_wd R (m := 0) rfl (by decide) rfl (by decide +kernel) G (fun f g R G => ?_)
  refine y_wd R (m := 1) rfl (by decide) rfl (by decide +kernel) G (fun f g R G => ?_)
  refine y_wd R (m := 2) rfl (by decide) rfl (by decide +kernel) G (fun f g R G => ?_)
  refine y_wd R (m := 3) rfl (by decide) rfl (by decide +kernel) G (fun f g R G => ?_)
  refine y_wd R (m := 4) rfl (by decide) rfl (by decide +kernel) G (fun f g R G => ?_)
  refine y_wd R (m := 5) rfl (by decide) rfl (by decide +kernel) G (fun f g R G => ?_)
  refine y_wd R (m := 6) rfl (by decide) rfl (by decide +kernel) G (fun f g R G => ?_)
  refine y_wd R (m := 7) rfl (by decide) rfl (by decide +kernel) G (fun f g R G => ?_)
  refine y_wd R (m := 8) rfl (by decide) rfl (by decide +kernel) G (fun f g R G => ?_)
  refine y_wd R (m := 9) rfl (by decide) rfl (by decide +kernel) G (fun f g R G => ?_)
  refine y_wd R (m := 10) rfl (by decide) rfl (by decide +kernel) G (fun f g R G => ?_)
  refine y_wd R (m := 11) rfl (by decide) rfl (by decide +kernel) G (fun f g R G => ?_)
  refine y_wd R (m := 12) rfl (by decide) rfl (by decide +kernel) G (fun f g R G => ?_)
  refine y_wd R (m := 13) rfl (by decide) rfl (by decide +kernel) G (fun f g R G => ?_)
  refine y_st R rfl (by decide) (by decide) (by decide) (by decide) (fun c => absurd c (by decide)) (fun _ => G) (fun f ad A h => ?_)
  exact y_init_997 hp (by omega) (by omega) h
set_option maxHeartbeats 4000000 in
set_option maxRecDepth 100000 in
theorem y_init_783 {post : xhp → Prop} (hp : ∀ f' ad A, yP b f' p0 57 ad A → post f') {nc ns : Nat} (hc : nc + 30 ≤ 60) (hs : ns + 17641 ≤ 30000) {f : xhp} {ad : Nat → Nat} {A : Nat → Nat → Int32} (h : yP b f p0 11 ad A) : w_Mo_init_783 post 60 30000 nc ns p0 f := by
  refine ⟨21, by decide, rfl, by omega, by omega, fun q f hq e => ?_⟩
  have R : yR b f p0 11 ad A q 11 (xbI (fun _ => 0)) := ⟨_, h, hq, e⟩
  clear hq e h
  have G : ∀ i, i < 0 → (fun _ => (0 : Int32)) i = nI ((xbN (ywi 11)).getD i 0) := fun i hi => absurd hi (Nat.not_lt_zero _)
  refine y_wd R (m := 0) rfl (by decide) rfl (by decide +kernel) G (fun f g R G => ?_)
  refine y_wd R (m := 1) rfl (by decide) rfl (by decide +kernel) G (fun f g R G => ?_)
  refine y_wd R (m := 2) rfl (by decide) rfl (by decide +kernel) G (fun f g R G => ?_)
  refine y_wd R (m := 3) rfl (by decide) rfl (by decide +kernel) G (fun f g R G => ?_)
  refine y_wd R (m := 4) rfl (by decide) rfl (by decide +kernel) G (fun f g R G => ?_)
  refine y_wd R (m := 5) rfl (by decide) rfl (by decide +kernel) G (fun f g R G => ?_)
  refine y_wd R (m := 6) rfl (by decide) rfl (by decide +kernel) G (fun f g R G => ?_)
  refine y_wd R (m := 7) rfl (by decide) rfl (by decide +kernel) G (fun f g R G => ?_)
  refine y_wd R (m := 8) rfl (by decide) rfl (by decide +kernel) G (fun f g R G => ?_)
  refine y_wd R (m := 9) rfl (by decide) rfl (by decide +kernel) G (fun f g R G => ?_)
  refine y_wd R (m := 10) rfl (by decide) rfl (by decide +kernel) G (fun f g R G => ?_)
  refine y_wd R (m := 11) rfl (by decide) rfl (by decide +kernel) G (fun f g R G => ?_)
  refine y_wd R (m := 12) rfl (by decide) rfl (by decide +kernel) G (fun f g R G => ?_)
  refine y_wd R (m := 13) rfl (by decide) rfl (by decide +kernel) G (fun f g R G => ?_)
  refine y_wd R (m := 14) rfl (by decide) rfl (by decide +kernel) G (fun f g R G => ?_)
  refine y_wd R (m := 15) rfl (by decide) rfl (by decide +kernel) G (fun f g R G => ?_)
  refine y_wd R (m := 16) rfl (by decide) rfl (by decide +kernel) G (fun f g R G => ?_)
  refine y_wd R (m := 17) rfl (by decide) rfl (by decide +kernel) G (fun f g R G => ?_)
  refine y_wd R (m := 18) rfl (by decide) rfl (by decide +kernel) G (fun f g R G => ?_)
  refine y_wd R (m := 19) rfl (by decide) rfl (by decide +kernel) G (fun f g R G => ?_)
  refine y_wd R (m := 20) rfl (by decide) rfl (by decide +kernel) G (fun f g R G => ?_)
  refine y_st R rfl (by decide) (by decide) (by decide) (by decide) (fun c => absurd c (by decide)) (fun _ => G) (fun f ad A h => ?_)
  exact y_init_911 hp (by omega) (by omega) h
set_option maxHeartbeats 4000000 in
set_option maxRecDepth 100000 in
theorem y_init_685 {post : xhp → Prop} (hp : ∀ f' ad A, yP b f' p0 57 ad A → post f') {nc ns : Nat} (hc : nc + 31 ≤ 60) (hs : ns + 17657 ≤ 30000) {f : xhp} {ad : Nat → Nat} {A : Nat → Nat → Int32} (h : yP b f p0 10 ad A) : w_Mo_init_685 post 60 30000 nc ns p0 f := by
  refine ⟨16, by decide, rfl, by omega, by omega, fun q f hq e => ?_⟩
  have R : yR b f p0 10 ad A q 10 (xbI (fun _ => 0)) := ⟨_, h, hq, e⟩
  clear hq e h
  have G : ∀ i, i < 0 → (fun _ => (0 : Int32)) i = nI ((xbN (ywi 10)).getD i 0) := fun i hi => absurd hi (Nat.not_lt_zero _)
  refine y_wd R (m := 0) rfl (by decide) rfl (by decide +kernel) G (fun f g R G => ?_)
  refine y_wd R (m := 1) rfl (by decide) rfl (by decide +kernel) G (fun f g R G => ?_)
  refine y_wd R (m := 2) rfl (by decide) rfl (by decide +kernel) G (fun f g R G => ?_)
  refine y_wd R (m := 3) rfl (by decide) rfl (by decide +kernel) G (fun f g R G => ?_)
  refine y_wd R (m := 4) rfl (by decide) rfl (by decide +kernel) G (fun f g R G => ?_)
  refine y_wd R (m := 5) rfl (by decide) rfl (by decide +kernel) G (fun f g R G => ?_)
  refine y_wd R (m := 6) rfl (by decide) rfl (by decide +kernel) G (fun f g R G => ?_)
  refine y_wd R (m := 7) rfl (by decide) rfl (by decide +kernel) G (fun f g R G => ?_)
  refine y_wd R (m := 8) rfl (by decide) rfl (by decide +kernel) G (fun f g R G => ?_)
  refine y_wd R (m := 9) rfl (by decide) rfl (by decide +kernel) G (fun f g R G => ?_)
  refine y_wd R (m := 10) rfl (by decide) rfl (by decide +kernel) G (fun f g R G => ?_)
  refine y_wd R (m := 11) rfl (by decide) rfl (by decide +kernel) G (fun f g R G => ?_)
  refine y_wd R (m := 12) rfl (by decide) rfl (by decide +kernel) G (fun f g R G => ?_)
  refine y_wd R (m := 13) rfl (by decide) rfl (by decide +kernel) G (fun f g R G => ?_)
  refine y_wd R (m := 14) rfl (by decide) rfl (by decide +kernel) G (fun f g R G => ?_)
  refine y_wd R (m := 15) rfl (by decide) rfl (by decide +kernel) G (fun f g R G => ?_)
  refine y_st R rfl (by decide) (by decide) (by decide) (by decide) (fun c => absurd c (by decide)) (fun _ => G) (fun f ad A h => ?_)
  exact y_init_783 hp (by omega) (by omega) h
set_option maxHeartbeats 4000000 in
set_option maxRecDepth 100000 in
theorem y_init_591 {post : xhp → Prop} (hp : ∀ f' ad A, yP b f' p0 57 ad A → post f') {nc ns : Nat} (hc : nc + 33 ≤ 60) (hs : ns + 17672 ≤ 30000) {f : xhp} {ad : Nat → Nat} {A : Nat → Nat → Int32} (h : yP b f p0 8 ad A) : w_Mo_init_591 post 60 30000 nc ns p0 f := by
  refine ⟨5, by decide, rfl, by omega, by omega, fun q f hq e => ?_⟩
  have R : yR b f p0 8 ad A q 8 (xbI (fun _ => 0)) := ⟨_, h, hq, e⟩
  clear hq e h
  have G : ∀ i, i < 0 → (fun _ => (0 : Int32)) i = nI ((xbN (ywi 8)).getD i 0) := fun i hi => absurd hi (Nat.not_lt_zero _)
  refine y_wd R (m := 0) rfl (by decide) rfl (by decide +kernel) G (fun f g R G => ?_)
  refine y_wd R (m := 1) rfl (by decide) rfl (by decide +kernel) G (fun f g R G => ?_)
  refine y_wd R (m := 2) rfl (by decide) rfl (by decide +kernel) G (fun f g R G => ?_)
  refine y_wd R (m := 3) rfl (by decide) rfl (by decide +kernel) G (fun f g R G => ?_)
  refine y_wd R (m := 4) rfl (by decide) rfl (by decide +kernel) G (fun f g R G => ?_)
  refine y_st R rfl (by decide) (by decide) (by decide) (by decide) (fun c => absurd c (by decide)) (fun _ => G) (fun f ad A h => ?_)
  refine ⟨10, by decide, rfl, by omega, by omega, fun q f hq e => ?_⟩
  have R : yR b f p0 9 ad A q 9 (xbI (fun _ => 0)) := ⟨_, h, hq, e⟩
  clear hq e h
  have G : ∀ i, i < 0 → (fun _ => (0 : Int32)) i = nI ((xbN (ywi 9)).getD i 0) := fun i hi => absurd hi (Nat.not_lt_zero _)
  refine y_wd R (m := 0) rfl (by decide) rfl (by decide +kernel) G (fun f g R G => ?_)
  refine y_wd R (m := 1) rfl (by decide) rfl (by decide +kernel) G (fun f g R G => ?_)
  refine y_wd R (m := 2) rfl (by decide) rfl (by decide +kernel) G (fun f g R G => ?_)
  refine y_wd R (m := 3) rfl (by decide) rfl (by decide +kernel) G (fun f g R G => ?_)
  refine y_wd R (m := 4) rfl (by decide) rfl (by decide +kernel) G (fun f g R G => ?_)
  refine y_wd R (m := 5) rfl (by decide) rfl (by decide +kernel) G (fun f g R G => ?_)
  refine y_wd R (m := 6) rfl (by decide) rfl (by decide +kernel) G (fun f g R G => ?_)
  refine y_wd R (m := 7) rfl (by decide) rfl (by decide +kernel) G (fun f g R G => ?_)
  refine y_wd R (m := 8) rfl (by decide) rfl (by decide +kernel) G (fun f g R G => ?_)
  refine y_wd R (m := 9) rfl (by decide) rfl (by decide +kernel) G (fun f g R G => ?_)
  refine y_st R rfl (by decide) (by decide) (by decide) (by decide) (fun c => absurd c (by decide)) (fun _ => G) (fun f ad A h => ?_)
  exact y_init_685 hp (by omega) (by omega) h
set_option maxHeartbeats 4000000 in
set_option maxRecDepth 100000 in
theorem y_init_535 {post : xhp → Prop} (hp : ∀ f' ad A, yP b f' p0 57 ad A → post f') {nc ns : Nat} (hc : nc + 34 ≤ 60) (hs : ns + 17681 ≤ 30000) {f : xhp} {ad : Nat → Nat} {A : Nat → Nat → Int32} (h : yP b f p0 7 ad A) : w_Mo_init_535 post 60 30000 nc ns p0 f := by
  refine ⟨9, by decide, rfl, by omega, by omega, fun q f hq e => ?_⟩
  have R : yR b f p0 7 ad A q 7 (xbI (fun _ => 0)) := ⟨_, h, hq, e⟩
  clear hq e h
  have G : ∀ i, i < 0 → (fun _ => (0 : Int32)) i = nI ((xbN (ywi 7)).getD i 0) := fun i hi => absurd hi (Nat.not_lt_zero _)
  refine y_wd R (m := 0) rfl (by decide) rfl (by decide +kernel) G (fun f g R G => ?_)
  refine y_wd R (m := 1) rfl (by decide) rfl (by decide +kernel) G (fun f g R G => ?_)
  refine y_wd R (m := 2) rfl (by decide) rfl (by decide +kernel) G (fun f g R G => ?_)
  refine y_wd R (m := 3) rfl (by decide) rfl (by decide +kernel) G (fun f g R G => ?_)
  refine y_wd R (m := 4) rfl (by decide) rfl (by decide +kernel) G (fun f g R G => ?_)
  refine y_wd R (m := 5) rfl (by decide) rfl (by decide +kernel) G (fun f g R G => ?_)
  refine y_wd R (m := 6) rfl (by decide) rfl (by decide +kernel) G (fun f g R G => ?_)
  refine y_wd R (m := 7) rfl (by decide) rfl (by decide +kernel) G (fun f g R G => ?_)
  refine y_wd R (m := 8) rfl (by decide) rfl (by decide +kernel) G (fun f g R G => ?_)
  refine y_st R rfl (by decide) (by decide) (by decide) (by decide) (fun c => absurd c (by decide)) (fun _ => G) (fun f ad A h => ?_)
  exact y_init_591 hp (by omega) (by omega) h
set_option maxHeartbeats 4000000 in
set_option maxRecDepth 100000 in
theorem y_init_446 {post : xhp → Prop} (hp : ∀ f' ad A, yP b f' p0 57 ad A → post f') {nc ns : Nat} (hc : nc + 36 ≤ 60) (hs : ns + 17695 ≤ 30000) {f : xhp} {ad : Nat → Nat} {A : Nat → Nat → Int32} (h : yP b f p0 5 ad A) : w_Mo_init_446 post 60 30000 nc ns p0 f := by
  refine ⟨4, by decide, rfl, by omega, by omega, fun q f hq e => ?_⟩
  have R : yR b f p0 5 ad A q 5 (xbI (fun _ => 0)) := ⟨_, h, hq, e⟩
  clear hq e h
  have G : ∀ i, i < 0 → (fun _ => (0 : Int32)) i = nI ((xbN (ywi 5)).getD i 0) := fun i hi => absurd hi (Nat.not_lt_zero _)
  refine y_wd R (m := 0) rfl (by decide) rfl (by decide +kernel) G (fun f g R G => ?_)
  refine y_wd R (m := 1) rfl (by decide) rfl (by decide +kernel) G (fun f g R G => ?_)
  refine y_wd R (m := 2) rfl (by decide) rfl (by decide +kernel) G (fun f g R G => ?_)
  refine y_wd R (m := 3) rfl (by decide) rfl (by decide +kernel) G (fun f g R G => ?_)
  refine y_st R rfl (by decide) (by decide) (by decide) (by decide) (fun c => absurd c (by decide)) (fun _ => G) (fun f ad A h => ?_)
  refine ⟨10, by decide, rfl, by omega, by omega, fun q f hq e => ?_⟩
  have R : yR b f p0 6 ad A q 6 (xbI (fun _ => 0)) := ⟨_, h, hq, e⟩
  clear hq e h
  have G : ∀ i, i < 0 → (fun _ => (0 : Int32)) i = nI ((xbN (ywi 6)).getD i 0) := fun i hi => absurd hi (Nat.not_lt_zero _)
  refine y_wd R (m := 0) rfl (by decide) rfl (by decide +kernel) G (fun f g R G => ?_)
  refine y_wd R (m := 1) rfl (by decide) rfl (by decide +kernel) G (fun f g R G => ?_)
  refine y_wd R (m := 2) rfl (by decide) rfl (by decide +kernel) G (fun f g R G => ?_)
  refine y_wd R (m := 3) rfl (by decide) rfl (by decide +kernel) G (fun f g R G => ?_)
  refine y_wd R (m := 4) rfl (by decide) rfl (by decide +kernel) G (fun f g R G => ?_)
  refine y_wd R (m := 5) rfl (by decide) rfl (by decide +kernel) G (fun f g R G => ?_)
  refine y_wd R (m := 6) rfl (by decide) rfl (by decide +kernel) G (fun f g R G => ?_)
  refine y_wd R (m := 7) rfl (by decide) rfl (by decide +kernel) G (fun f g R G => ?_)
  refine y_wd R (m := 8) rfl (by decide) rfl (by decide +kernel) G (fun f g R G => ?_)
  refine y_wd R (m := 9) rfl (by decide) rfl (by decide +kernel) G (fun f g R G => ?_)
  refine y_st R rfl (by decide) (by decide) (by decide) (by decide) (fun c => absurd c (by decide)) (fun _ => G) (fun f ad A h => ?_)
  exact y_init_535 hp (by omega) (by omega) h
set_option maxHeartbeats 4000000 in
set_option maxRecDepth 100000 in
theorem y_init_396 {post : xhp → Prop} (hp : ∀ f' ad A, yP b f' p0 57 ad A → post f') {nc ns : Nat} (hc : nc + 37 ≤ 60) (hs : ns + 17703 ≤ 30000) {f : xhp} {ad : Nat → Nat} {A : Nat → Nat → Int32} (h : yP b f p0 4 ad A) : w_Mo_init_396 post 60 30000 nc ns p0 f := by
  refine ⟨8, by decide, rfl, by omega, by omega, fun q f hq e => ?_⟩
  have R : yR b f p0 4 ad A q 4 (xbI (fun _ => 0)) := ⟨_, h, hq, e⟩
  clear hq e h
  have G : ∀ i, i < 0 → (fun _ => (0 : Int32)) i = nI ((xbN (ywi 4)).getD i 0) := fun i hi => absurd hi (Nat.not_lt_zero _)
  refine y_wd R (m := 0) rfl (by decide) rfl (by decide +kernel) G (fun f g R G => ?_)
  refine y_wd R (m := 1) rfl (by decide) rfl (by decide +kernel) G (fun f g R G => ?_)
  refine y_wd R (m := 2) rfl (by decide) rfl (by decide +kernel) G (fun f g R G => ?_)
  refine y_wd R (m := 3) rfl (by decide) rfl (by decide +kernel) G (fun f g R G => ?_)
  refine y_wd R (m := 4) rfl (by decide) rfl (by decide +kernel) G (fun f g R G => ?_)
  refine y_wd R (m := 5) rfl (by decide) rfl (by decide +kernel) G (fun f g R G => ?_)
  refine y_wd R (m := 6) rfl (by decide) rfl (by decide +kernel) G (fun f g R G => ?_)
  refine y_wd R (m := 7) rfl (by decide) rfl (by decide +kernel) G (fun f g R G => ?_)
  refine y_st R rfl (by decide) (by decide) (by decide) (by decide) (fun c => absurd c (by decide)) (fun _ => G) (fun f ad A h => ?_)
  exact y_init_446 hp (by omega) (by omega) h
set_option maxHeartbeats 4000000 in
set_option maxRecDepth 100000 in
theorem y_init_346 {post : xhp → Prop} (hp : ∀ f' ad A, yP b f' p0 57 ad A → post f') {nc ns : Nat} (hc : nc + 38 ≤ 60) (hs : ns + 17711 ≤ 30000) {f : xhp} {ad : Nat → Nat} {A : Nat → Nat → Int32} (h : yP b f p0 3 ad A) : w_Mo_init_346 post 60 30000 nc ns p0 f := by
  refine ⟨8, by decide, rfl, by omega, by omega, fun q f hq e => ?_⟩
  have R : yR b f p0 3 ad A q 3 (xbI (fun _ => 0)) := ⟨_, h, hq, e⟩
  clear hq e h
  have G : ∀ i, i < 0 → (fun _ => (0 : Int32)) i = nI ((xbN (ywi 3)).getD i 0) := fun i hi => absurd hi (Nat.not_lt_zero _)
  refine y_wd R (m := 0) rfl (by decide) rfl (by decide +kernel) G (fun f g R G => ?_)
  refine y_wd R (m := 1) rfl (by decide) rfl (by decide +kernel) G (fun f g R G => ?_)
  refine y_wd R (m := 2) rfl (by decide) rfl (by decide +kernel) G (fun f g R G => ?_)
  refine y_wd R (m := 3) rfl (by decide) rfl (by decide +kernel) G (fun f g R G => ?_)
  refine y_wd R (m := 4) rfl (by decide) rfl (by decide +kernel) G (fun f g R G => ?_)
  refine y_wd R (m := 5) rfl (by decide) rfl (by decide +kernel) G (fun f g R G => ?_)
  refine y_wd R (m := 6) rfl (by decide) rfl (by decide +kernel) G (fun f g R G => ?_)
  refine y_wd R (m := 7) rfl (by decide) rfl (by decide +kernel) G (fun f g R G => ?_)
  refine y_st R rfl (by decide) (by decide) (by decide) (by decide) (fun c => absurd c (by decide)) (fun _ => G) (fun f ad A h => ?_)
  exact y_init_396 hp (by omega) (by omega) h
set_option maxHeartbeats 4000000 in
set_option maxRecDepth 100000 in
theorem y_init_230 {post : xhp → Prop} (hp : ∀ f' ad A, yP b f' p0 57 ad A → post f') {nc ns : Nat} (hc : nc + 39 ≤ 60) (hs : ns + 17730 ≤ 30000) {f : xhp} {ad : Nat → Nat} {A : Nat → Nat → Int32} (h : yP b f p0 2 ad A) : w_Mo_init_230 post 60 30000 nc ns p0 f := by
  refine ⟨19, by decide, rfl, by omega, by omega, fun q f hq e => ?_⟩
  have R : yR b f p0 2 ad A q 2 (xbI (fun _ => 0)) := ⟨_, h, hq, e⟩
  clear hq e h
  have G : ∀ i, i < 0 → (fun _ => (0 : Int32)) i = nI ((xbN (ywi 2)).getD i 0) := fun i hi => absurd hi (Nat.not_lt_zero _)
  refine y_wd R (m := 0) rfl (by decide) rfl (by decide +kernel) G (fun f g R G => ?_)
  refine y_wd R (m := 1) rfl (by decide) rfl (by decide +kernel) G (fun f g R G => ?_)
  refine y_wd R (m := 2) rfl (by decide) rfl (by decide +kernel) G (fun f g R G => ?_)
  refine y_wd R (m := 3) rfl (by decide) rfl (by decide +kernel) G (fun f g R G => ?_)
  refine y_wd R (m := 4) rfl (by decide) rfl (by decide +kernel) G (fun f g R G => ?_)
  refine y_wd R (m := 5) rfl (by decide) rfl (by decide +kernel) G (fun f g R G => ?_)
  refine y_wd R (m := 6) rfl (by decide) rfl (by decide +kernel) G (fun f g R G => ?_)
  refine y_wd R (m := 7) rfl (by decide) rfl (by decide +kernel) G (fun f g R G => ?_)
  refine y_wd R (m := 8) rfl (by decide) rfl (by decide +kernel) G (fun f g R G => ?_)
  refine y_wd R (m := 9) rfl (by decide) rfl (by decide +kernel) G (fun f g R G => ?_)
  refine y_wd R (m := 10) rfl (by decide) rfl (by decide +kernel) G (fun f g R G => ?_)
  refine y_wd R (m := 11) rfl (by decide) rfl (by decide +kernel) G (fun f g R G => ?_)
  refine y_wd R (m := 12) rfl (by decide) rfl (by decide +kernel) G (fun f g R G => ?_)
  refine y_wd R (m := 13) rfl (by decide) rfl (by decide +kernel) G (fun f g R G => ?_)
  refine y_wd R (m := 14) rfl (by decide) rfl (by decide +kernel) G (fun f g R G => ?_)
  refine y_wd R (m := 15) rfl (by decide) rfl (by decide +kernel) G (fun f g R G => ?_)
  refine y_wd R (m := 16) rfl (by decide) rfl (by decide +kernel) G (fun f g R G => ?_)
  refine y_wd R (m := 17) rfl (by decide) rfl (by decide +kernel) G (fun f g R G => ?_)
  refine y_wd R (m := 18) rfl (by decide) rfl (by decide +kernel) G (fun f g R G => ?_)
  refine y_st R rfl (by decide) (by decide) (by decide) (by decide) (fun c => absurd c (by decide)) (fun _ => G) (fun f ad A h => ?_)
  exact y_init_346 hp (by omega) (by omega) h
set_option maxHeartbeats 4000000 in
set_option maxRecDepth 100000 in
theorem y_init_78 {post : xhp → Prop} (hp : ∀ f' ad A, yP b f' p0 57 ad A → post f') {nc ns : Nat} (hc : nc + 40 ≤ 60) (hs : ns + 17755 ≤ 30000) {f : xhp} {ad : Nat → Nat} {A : Nat → Nat → Int32} (h : yP b f p0 1 ad A) : w_Mo_init_78 post 60 30000 nc ns p0 f := by
  refine ⟨25, by decide, rfl, by omega, by omega, fun q f hq e => ?_⟩
  have R : yR b f p0 1 ad A q 1 (xbI (fun _ => 0)) := ⟨_, h, hq, e⟩
  clear hq e h
  have G : ∀ i, i < 0 → (fun _ => (0 : Int32)) i = nI ((xbN (ywi 1)).getD i 0) := fun i hi => absurd hi (Nat.not_lt_zero _)
  refine y_wd R (m := 0) rfl (by decide) rfl (by decide +kernel) G (fun f g R G => ?_)
  refine y_wd R (m := 1) rfl (by decide) rfl (by decide +kernel) G (fun f g R G => ?_)
  refine y_wd R (m := 2) rfl (by decide) rfl (by decide +kernel) G (fun f g R G => ?_)
  refine y_wd R (m := 3) rfl (by decide) rfl (by decide +kernel) G (fun f g R G => ?_)
  refine y_wd R (m := 4) rfl (by decide) rfl (by decide +kernel) G (fun f g R G => ?_)
  refine y_wd R (m := 5) rfl (by decide) rfl (by decide +kernel) G (fun f g R G => ?_)
  refine y_wd R (m := 6) rfl (by decide) rfl (by decide +kernel) G (fun f g R G => ?_)
  refine y_wd R (m := 7) rfl (by decide) rfl (by decide +kernel) G (fun f g R G => ?_)
  refine y_wd R (m := 8) rfl (by decide) rfl (by decide +kernel) G (fun f g R G => ?_)
  refine y_wd R (m := 9) rfl (by decide) rfl (by decide +kernel) G (fun f g R G => ?_)
  refine y_wd R (m := 10) rfl (by decide) rfl (by decide +kernel) G (fun f g R G => ?_)
  refine y_wd R (m := 11) rfl (by decide) rfl (by decide +kernel) G (fun f g R G => ?_)
  refine y_wd R (m := 12) rfl (by decide) rfl (by decide +kernel) G (fun f g R G => ?_)
  refine y_wd R (m := 13) rfl (by decide) rfl (by decide +kernel) G (fun f g R G => ?_)
  refine y_wd R (m := 14) rfl (by decide) rfl (by decide +kernel) G (fun f g R G => ?_)
  refine y_wd R (m := 15) rfl (by decide) rfl (by decide +kernel) G (fun f g R G => ?_)
  refine y_wd R (m := 16) rfl (by decide) rfl (by decide +kernel) G (fun f g R G => ?_)
  refine y_wd R (m := 17) rfl (by decide) rfl (by decide +kernel) G (fun f g R G => ?_)
  refine y_wd R (m := 18) rfl (by decide) rfl (by decide +kernel) G (fun f g R G => ?_)
  refine y_wd R (m := 19) rfl (by decide) rfl (by decide +kernel) G (fun f g R G => ?_)
  refine y_wd R (m := 20) rfl (by decide) rfl (by decide +kernel) G (fun f g R G => ?_)
  refine y_wd R (m := 21) rfl (by decide) rfl (by decide +kernel) G (fun f g R G => ?_)
  refine y_wd R (m := 22) rfl (by decide) rfl (by decide +kernel) G (fun f g R G => ?_)
  refine y_wd R (m := 23) rfl (by decide) rfl (by decide +kernel) G (fun f g R G => ?_)
  refine y_wd R (m := 24) rfl (by decide) rfl (by decide +kernel) G (fun f g R G => ?_)
  refine y_st R rfl (by decide) (by decide) (by decide) (by decide) (fun c => absurd c (by decide)) (fun _ => G) (fun f ad A h => ?_)
  exact y_init_230 hp (by omega) (by omega) h
set_option maxHeartbeats 4000000 in
set_option maxRecDepth 100000 in
theorem y_init_0 {post : xhp → Prop} (hp : ∀ f' ad A, yP b f' p0 57 ad A → post f') {f : xhp} {ad : Nat → Nat} {A : Nat → Nat → Int32} (h : yP b f p0 0 ad A) : w_Mo_init post 60 30000 p0 f := by
  refine ⟨12, by decide, rfl, by omega, by omega, fun q f hq e => ?_⟩
  have R : yR b f p0 0 ad A q 0 (xbI (fun _ => 0)) := ⟨_, h, hq, e⟩
  clear hq e h
  have G : ∀ i, i < 0 → (fun _ => (0 : Int32)) i = nI ((xbN (ywi 0)).getD i 0) := fun i hi => absurd hi (Nat.not_lt_zero _)
  refine y_wd R (m := 0) rfl (by decide) rfl (by decide +kernel) G (fun f g R G => ?_)
  refine y_wd R (m := 1) rfl (by decide) rfl (by decide +kernel) G (fun f g R G => ?_)
  refine y_wd R (m := 2) rfl (by decide) rfl (by decide +kernel) G (fun f g R G => ?_)
  refine y_wd R (m := 3) rfl (by decide) rfl (by decide +kernel) G (fun f g R G => ?_)
  refine y_wd R (m := 4) rfl (by decide) rfl (by decide +kernel) G (fun f g R G => ?_)
  refine y_wd R (m := 5) rfl (by decide) rfl (by decide +kernel) G (fun f g R G => ?_)
  refine y_wd R (m := 6) rfl (by decide) rfl (by decide +kernel) G (fun f g R G => ?_)
  refine y_wd R (m := 7) rfl (by decide) rfl (by decide +kernel) G (fun f g R G => ?_)
  refine y_wd R (m := 8) rfl (by decide) rfl (by decide +kernel) G (fun f g R G => ?_)
  refine y_wd R (m := 9) rfl (by decide) rfl (by decide +kernel) G (fun f g R G => ?_)
  refine y_wd R (m := 10) rfl (by decide) rfl (by decide +kernel) G (fun f g R G => ?_)
  refine y_wd R (m := 11) rfl (by decide) rfl (by decide +kernel) G (fun f g R G => ?_)
  refine y_st R rfl (by decide) (by decide) (by decide) (by decide) (fun c => absurd c (by decide)) (fun _ => G) (fun f ad A h => ?_)
  exact y_init_78 hp (by omega) (by omega) h
end YI
theorem y_init {p0 : Nat} {f f0 : xhp} (hf : f0 p0 = none) (hf0 : f = xup f0 p0 (.inr (5, dv_Mo))) {post : xhp → Prop} (hp : ∀ f' ad, ad 57 = p0 → (∀ k, yow k = true → f0 (ad k) = none) → yN f0 ad f' [] [] [] [] 0 → post f') : w_Mo_init post 60 30000 p0 f := by
  refine y_init_0 (b := f0) (fun f' ad A h => ?_) (ad := fun _ => p0) (A := fun _ _ => 0) ⟨rfl, fun i j hi hj _ => ?_, fun a ha _ => ?_, ?_, fun k hk => absurd hk (Nat.not_lt_zero _), fun k hk => absurd hk (Nat.not_lt_zero _), fun k hk => absurd hk (Nat.not_lt_zero _), hf, fun k hk => absurd hk (Nat.not_lt_zero _)⟩
  · obtain ⟨e57, inj, out, m0, arr, z0, wd, nb, na⟩ := h
    have yo : ∀ k, yow k = true → k = 57 ∨ (k < 57 ∧ ytg k ≠ 9) := by
      intro k hk
      unfold yow at hk
      rw [Bool.or_eq_true, beq_iff_eq, bne_iff_ne] at hk
      rcases hk with c | c
      · exact Or.inl c
      · exact Or.inr ⟨ytg_57 k c, c⟩
    refine hp f' ad e57 (fun k hk => by rcases yo k hk with c | c; rw [c, e57]; exact nb; exact na k c.1 c.2) ⟨(A, fun _ => 0, fun _ => 0, fun _ => 0), false, ⟨fun i j hi hj e => inj i j (yo i hi) (yo j hj) e, fun a ha => out a (by rw [← e57]; exact ha 57 rfl) (fun k hk h9 => ha k (yow_a h9)), ?_, fun k h9 => arr k (ytg_57 k h9) h9⟩, ⟨⟨fun i hi => absurd hi (Nat.not_lt_zero _), rfl, Nat.zero_le _, zB.nil⟩, ⟨fun i hi => absurd hi (Nat.not_lt_zero _), rfl⟩, lns_zL [], lns_zLe [], fun k hk i hi => wd k (by omega) hk i hi⟩, ⟨rfl, rfl, Nat.zero_le _, fun i hi => absurd hi (Nat.not_lt_zero _)⟩, rfl, fun _ => ⟨rfl, rfl, rfl⟩, fun i hi => ?_, zB.nil, ⟨fun i hi => absurd hi (Nat.not_lt_zero _), rfl, Nat.zero_le _, zB.nil⟩, bt_0⟩
    · rw [e57, m0]; rfl
    · show A 17 i = _
      rw [z0 17 (by decide) (by decide) (by decide)]; rfl
  · omega
  · rw [hf0, xup_ne _ _ ha]
  · rw [hf0, xup_self]; rfl
