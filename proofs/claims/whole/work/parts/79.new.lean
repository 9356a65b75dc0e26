/-! CONSTRUCTORS: the cells in the order in which they are made -/
def hS (b f : xhp) (ao : Nat → Nat) (n : Nat) : Prop :=
  (∀ i j, i < n → j < n → ao i = ao j → i = j) ∧ (∀ a, (∀ t, t < n → a ≠ ao t) → f a = b a) ∧ ∀ t, t < n → (f (ao t)).isSome = true
def zfr (f : xhp) (ao : Nat → Nat) (n : Nat) (f' : xhp) (ao' : Nat → Nat) : Prop := ∀ t, t < n → ao' t = ao t ∧ f' (ao t) = f (ao t)
theorem zfr.trans {f f1 f2 : xhp} {ao ao1 ao2 : Nat → Nat} {n n1 : Nat} (h1 : zfr f ao n f1 ao1) (h2 : zfr f1 ao1 n1 f2 ao2) (hn : n ≤ n1) : zfr f ao n f2 ao2 := fun t ht => by
  obtain ⟨a, c⟩ := h1 t ht
  obtain ⟨a', c'⟩ := h2 t (by omega)
  rw [a] at c'
  exact ⟨a'.trans a, c'.trans c⟩
theorem zfr.mono {f f1 : xhp} {ao ao1 : Nat → Nat} {n n1 : Nat} (h1 : zfr f ao n1 f1 ao1) (hn : n ≤ n1) : zfr f ao n f1 ao1 := fun t ht => h1 t (by omega)
theorem zfr.refl (f : xhp) (ao : Nat → Nat) (n : Nat) : zfr f ao n f ao := fun _ _ => ⟨rfl, rfl⟩
section HS
variable {b f : xhp} {ao : Nat → Nat} {n : Nat}
theorem hS.al (h : hS b f ao n) {q : Nat} (hq : f q = none) (c : xE) : hS b (xup f q c) (va_up ao n q) (n + 1) ∧ zfr f ao n (xup f q c) (va_up ao n q) := by
  have hne : ∀ t, t < n → ao t ≠ q := fun t ht e => by have := h.2.2 t ht; rw [e, hq] at this; cases this
  refine ⟨⟨fun i j hi hj e => ?_, fun a ha => ?_, fun t ht => ?_⟩, fun t ht => ⟨zup_ne _ _ (by omega), xup_ne _ _ (hne t ht)⟩⟩
  · by_cases q1 : i = n
    · by_cases q2 : j = n
      · omega
      · rw [q1, zup_self, zup_ne _ _ q2] at e
        exact absurd e.symm (hne j (by omega))
    · by_cases q2 : j = n
      · rw [q2, zup_self, zup_ne _ _ q1] at e
        exact absurd e (hne i (by omega))
      · rw [zup_ne _ _ q1, zup_ne _ _ q2] at e
        exact h.1 i j (by omega) (by omega) e
  · have h1 := ha n (by omega)
    rw [zup_self] at h1
    rw [xup_ne _ _ h1]
    refine h.2.1 a (fun t ht => ?_)
    have := ha t (by omega)
    rw [zup_ne _ _ (by omega)] at this
    exact this
  · by_cases q1 : t = n
    · rw [q1, zup_self, xup_self]; rfl
    · rw [zup_ne _ _ q1, xup_ne _ _ (hne t (by omega))]
      exact h.2.2 t (by omega)
theorem hS.wr (h : hS b f ao n) {t : Nat} (ht : t < n) (c : xE) : hS b (xup f (ao t) c) ao n ∧ ∀ s, s < n → s ≠ t → xup f (ao t) c (ao s) = f (ao s) := by
  refine ⟨⟨h.1, fun a ha => ?_, fun s hs => ?_⟩, fun s hs hn => xup_ne _ _ (fun e => hn (h.1 s t hs ht e))⟩
  · rw [xup_ne _ _ (ha t ht)]; exact h.2.1 a ha
  · by_cases q : ao s = ao t
    · rw [q, xup_self]; rfl
    · rw [xup_ne _ _ q]; exact h.2.2 s hs
theorem hS.upd (h : hS b f ao n) {f' : xhp} {t : Nat} (ht : t + 1 < n) (h1 : ∀ a, a ≠ ao t → a ≠ ao (t + 1) → f' a = f a) (h2 : (f' (ao t)).isSome = true) (h3 : (f' (ao (t + 1))).isSome = true) : hS b f' ao n := by
  refine ⟨h.1, fun a ha => ?_, fun s hs => ?_⟩
  · rw [h1 a (ha t (by omega)) (ha (t + 1) ht)]; exact h.2.1 a ha
  · by_cases q : ao s = ao t
    · rw [q]; exact h2
    · by_cases q' : ao s = ao (t + 1)
      · rw [q']; exact h3
      · rw [h1 _ q q']; exact h.2.2 s hs
/-- a row in the cells t and t + 1 -/
def okR (f : xhp) (ao : Nat → Nat) (t cap : Nat) (L : List Nat) : Prop := L.length ≤ cap ∧ f (ao t) = some (.inr (2, [.ref (ao (t + 1)), .int (nI L.length)])) ∧ ∃ g : Nat → Int32, f (ao (t + 1)) = some (.inl (0, cap, xbI g)) ∧ ∀ i, i < L.length → g i = nI (L.getD i 0)
theorem okR.fr {f' : xhp} {ao' : Nat → Nat} {t cap : Nat} {L : List Nat} (h : okR f ao t cap L) (hf : zfr f ao n f' ao') (ht : t + 1 < n) : okR f' ao' t cap L := by
  obtain ⟨h1, h2, g, h3, h4⟩ := h
  obtain ⟨a1, a2⟩ := hf t (by omega)
  obtain ⟨c1, c2⟩ := hf (t + 1) ht
  exact ⟨h1, by rw [a1, c1, a2]; exact h2, g, by rw [c1, c2]; exact h3, h4⟩
theorem n_row (h : hS b f ao n) {q1 cap : Nat} {p1 : Int32} {f2 : xhp} (hq : f q1 = none) (e2 : f2 = xup f q1 (.inr (2, dv_Ro))) (hc : cap < 2 ^ 20) (hp1 : p1 = nI cap) {post : xhp → Prop} (hp : ∀ f' ao', hS b f' ao' (n + 2) → zfr f ao n f' ao' → ao' n = q1 → okR f' ao' n cap [] → post f') : w_Ro_init post 1 cap q1 p1 f2 := by
  subst e2 hp1
  obtain ⟨h1, r1⟩ := h.al hq (.inr (2, dv_Ro))
  refine ⟨cap, hc, by rw [if_neg (nI_pos (by omega))], by omega, by omega, fun q f3 hq3 e3 => ?_⟩
  subst e3
  obtain ⟨h2, r2⟩ := h1.al hq3 (.inl (0, cap, xbI (fun _ => 0)))
  have hne : q1 ≠ q := fun e => by rw [e, xup_self] at hq3; cases hq3
  obtain ⟨ao2, ea⟩ : ∃ ao2, ao2 = va_up (va_up ao n q1) (n + 1) q := ⟨_, rfl⟩
  rw [← ea] at h2 r2
  have en : ao2 n = q1 := by rw [ea, zup_ne _ _ (by omega), zup_self]
  have en1 : ao2 (n + 1) = q := by rw [ea, zup_self]
  refine ⟨dv_Ro, by rw [xup_ne _ _ hne, xup_self], by decide, fun f5 e5 => ⟨[.ref q, .int 0], by rw [e5, xup_self]; rfl, by simp, fun f7 e7 => ?_⟩⟩
  subst e5
  subst e7
  have k1 := h2.wr (t := n) (by omega) (.inr (2, [.ref q, .int 0]))
  have k2 := k1.1.wr (t := n) (by omega) (.inr (2, [.ref q, .int 0]))
  rw [en] at k1 k2
  refine hp _ ao2 k2.1 ?_ en ⟨Nat.zero_le _, ?_, fun _ => 0, ?_, fun i hi => absurd hi (Nat.not_lt_zero _)⟩
  · intro t ht
    obtain ⟨a1, a2⟩ := r1 t ht
    obtain ⟨c1, c2⟩ := r2 t (by omega)
    have w1 := k1.2 t (by omega) (by omega)
    have w2 := k2.2 t (by omega) (by omega)
    rw [c1, a1] at w1 w2
    rw [a1] at c2
    exact ⟨c1.trans a1, w2.trans (w1.trans (c2.trans a2))⟩
  · rw [en, en1, xup_self]; rfl
  · have w1 := k1.2 (n + 1) (by omega) (by omega)
    have w2 := k2.2 (n + 1) (by omega) (by omega)
    refine w2.trans (w1.trans ?_)
    rw [en1, xup_self]
theorem k_add {t cap : Nat} {L : List Nat} (hne : ao (t + 1) ≠ ao t) (h : okR f ao t cap L) (hx : L.length < cap) (hcap : cap ≤ 1500) {x : Nat} {post : xhp → Prop} (hp : ∀ f', okR f' ao t cap (L ++ [x]) → (∀ a, a ≠ ao t → a ≠ ao (t + 1) → f' a = f a) → post f') : w_Ro_add post (ao t) (nI x) f := by
  obtain ⟨hle, e1, g, e2, hg⟩ := h
  refine ⟨_, ⟨_, e1, rfl⟩, fun c => absurd c (nI_pos (by omega)), fun c => ⟨_, ⟨_, e1, rfl⟩, _, ⟨_, e1, rfl⟩, _, _, _, e2, by decide, fun c2 => ?_, fun c2 => ⟨_, ⟨_, e1, rfl⟩, _, ⟨_, e1, rfl⟩, _, _, e2, vp_in_nI hx (by omega), fun f2 ef2 => ?_⟩⟩⟩
  · rw [nI_leI (by omega) (by omega)] at c2; omega
  · have e3 : f2 (ao t) = some (.inr (2, [.ref (ao (t + 1)), .int (nI L.length)])) := by rw [ef2, xup_ne _ _ hne.symm]; exact e1
    refine ⟨_, ⟨_, e3, rfl⟩, _, e3, by simp, fun f3 ef3 => hp f3 ⟨?_, ?_, upd g (nI L.length).toNatClampNeg (nI x), ?_, fun i hi => ?_⟩ (fun a h1 h2 => ?_)⟩
    · simp; omega
    · rw [ef3, xup_self, nI_1, List.length_append]; rfl
    · rw [ef3, xup_ne _ _ hne, ef2, xup_self]
    · rw [nI_clamp (by omega)]
      simp only [List.length_append, List.length_cons, List.length_nil] at hi
      by_cases e : i = L.length
      · subst e; rw [upd_self]; simp [List.getD]
      · rw [upd_ne _ _ e, hg i (by omega)]
        congr 1
        have hi' : i < L.length := by omega
        simp only [List.getD, List.getElem?_append_left hi']
    · rw [ef3, xup_ne _ _ h1, ef2, xup_ne _ _ h2]
theorem k_put {sk : Nat → Nat} {t cap i : Nat} (hi : i < 17) (hne : ao (t + 1) ≠ ao t) (hc : (xbN i).length ≤ cap) (hcap : cap ≤ 1500) {post : xhp → Prop} : ∀ (m k : Nat) (f1 : xhp), okR f1 ao t cap ((xbN i).take k) → k + m = (xbN i).length → (∀ f', okR f' ao t cap (xbN i) → (∀ a, a ≠ ao t → a ≠ ao (t + 1) → f' a = f1 a) → post f') → w_Ro_put_6 sk post (m + 1) (ao t) (sk i) (nI k) f1 := by
  obtain ⟨a1, a2, a3⟩ := xbN_all i hi
  intro m
  induction m with
  | zero =>
    intro k f1 h hk hp
    rw [List.take_of_length_le (by omega)] at h
    refine ⟨i, hi, rfl, fun _ => hp f1 h (fun _ _ _ => rfl), fun c => absurd ?_ c⟩
    rw [a1]; exact nI_le (by omega) (by omega)
  | succ m ih =>
    intro k f1 h hk hp
    refine ⟨i, hi, rfl, fun c => ?_, fun c => ⟨i, hi, rfl, k, by omega, rfl, ⟨_, h.2.1⟩, ?_⟩⟩
    · rw [a1, nI_leI (by omega) (by omega)] at c; omega
    · rw [a3 k (by omega)]
      refine k_add hne h (by rw [List.length_take]; omega) hcap (fun f2 h2 e2 => ?_)
      rw [nI_1]
      refine ih (k + 1) f2 ?_ (by omega) (fun f' h' e' => hp f' h' (fun a q1 q2 => by rw [e' a q1 q2, e2 a q1 q2]))
      have hkl : k < (xbN i).length := by omega
      have : (xbN i).take (k + 1) = (xbN i).take k ++ [(xbN i).getD k 0] := by
        rw [List.take_succ]
        simp [hkl]
      rw [this]; exact h2
theorem n_rowOf (h : hS b f ao n) {sk : Nat → Nat} {i : Nat} (hi : i < 17) {post : Option Nat → xhp → Prop} (hp : ∀ f' ao', hS b f' ao' (n + 2) → zfr f ao n f' ao' → okR f' ao' n (xbN i).length (xbN i) → post (some (ao' n)) f') : w_Mp_rowOf sk post 2 (2 + (xbN i).length) (sk i) f := by
  obtain ⟨a1, a2, a3⟩ := xbN_all i hi
  refine ⟨by omega, by omega, fun q1 f2 hq e2 => ⟨i, hi, rfl, 1, (xbN i).length, by omega, by omega, ?_⟩⟩
  refine n_row h hq e2 (cap := (xbN i).length) (by omega) (by rw [a1]) (fun f5 ao5 h5 r5 en k5 => ?_)
  subst en
  have hne : ao5 (n + 1) ≠ ao5 n := fun e => by have := h5.1 (n + 1) n (by omega) (by omega) e; omega
  have e1 := k5.2.1
  refine ⟨⟨_, e1⟩, ⟨_, e1⟩, _, e1, by simp, fun f6 e6 => ⟨(xbN i).length + 1, ?_⟩⟩
  subst e6
  refine k_put hi hne (Nat.le_refl _) (by omega) (xbN i).length 0 _ ⟨Nat.zero_le _, ?_, ?_⟩ (by omega) (fun f' h' e' => hp f' ao5 (h5.upd (t := n) (by omega) (fun a q1 q2 => by rw [e' a q1 q2, xup_ne _ _ q1]) (by rw [h'.2.1]; rfl) (by obtain ⟨g, hg, _⟩ := h'.2.2; rw [hg]; rfl)) (fun t ht => ?_) h')
  · rw [xup_self]; rfl
  · obtain ⟨g, hg, _⟩ := k5.2.2
    exact ⟨g, by rw [xup_ne _ _ hne]; exact hg, fun j hj => absurd hj (by simp)⟩
  · obtain ⟨c1, c2⟩ := r5 t ht
    have n1 : ao5 t ≠ ao5 n := fun e => by have := h5.1 t n (by omega) (by omega) e; omega
    have n2 : ao5 t ≠ ao5 (n + 1) := fun e => by have := h5.1 t (n + 1) (by omega) (by omega) e; omega
    rw [c1] at n1 n2
    exact ⟨c1, by rw [e' _ n1 n2, xup_ne _ _ n1]; exact c2⟩
end HS
