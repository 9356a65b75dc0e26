/-! the sets of texts, from the last ENTITY on; alternative -/
def neS (S : Nat → Bool) : Bool := (List.range 60).any S
/-- the last one of the children c .. whose set is not empty; and the last one without html -/
def pkF (R : List eT) (H : Nat → Bool) (s : Nat → Nat → Bool) (e : Nat) : Nat → Nat → Option Nat × Option Nat → Option Nat × Option Nat
  | 0, _, a => a
  | n + 1, c, a => pkF R H s e n (c + 1) (if pr R c = e + 1 ∧ neS (s c) = true then (some c, if neS (fun x => s c x && H x) = true then a.2 else some c) else a)
def pick (R : List eT) (H : Nat → Bool) (s : Nat → Nat → Bool) (e : Nat) : Option Nat := match pkF R H s e (R.length - (e + 1)) (e + 1) (none, none) with
  | (l, none) => l
  | (_, some c) => some c
theorem neS_eq {v : Int64} {S : Nat → Bool} (h : bt v S) : v = 0 ↔ neS S = false := by
  rw [bt_eq0 h]
  unfold neS
  rw [List.any_eq_false]
  constructor
  · intro q x _; rw [q x]; exact Bool.false_ne_true
  · intro q x
    by_cases c : x < 60
    · have := q x (List.mem_range.mpr c)
      rw [Bool.not_eq_true] at this; exact this
    · exact h.2 x (by omega)
def oS (s : Nat → Nat → Bool) (o : Option Nat) : Nat → Bool := match o with
  | some c => s c
  | none => fun _ => false
section YAt
variable {b : xhp} {ad : Nat → Nat} {M : List Nat} {K : List (Nat × Nat)} {y : yS} {f : xhp} {R : List eT} {lost : Nat}
theorem y_alternative (h : yM b f ad y) (hE : yEn y M K R lost) {e : Nat} (he : e < R.length) {H : Nat → Bool} {s : Nat → Nat → Bool} (hH : bt (y.2.2.2 37) H) (hs : ∀ c, e < c → c < R.length → bt (y.2.1 c) (s c)) {post : Int64 → xhp → Prop} (hp : ∀ v, bt v (oS s (pick R H s e)) → post v f) : w_Mo_alternative post (ad 57) (nI e) f := by
  have h60 := hE.2.2.1
  have loop : ∀ (n c : Nat) (a : Option Nat × Option Nat) (l p : Int64), c + n = R.length → e < c → bt l (oS s a.1) → bt p (oS s a.2) → (∀ q, a.2 = some q → neS (s q) = true) → (∀ v, bt v (oS s (match pkF R H s e n c a with | (l, none) => l | (_, some c) => some c)) → post v f) → w_Mo_alternative_10 post (n + 1) (ad 57) (nI e) l p (nI c) f := by
    intro n
    induction n with
    | zero =>
      intro c a l p hc hec hl hpl hne hq
      refine ⟨nI R.length, ⟨_, h.2.2.1, by rw [← hE.1]; rfl⟩, fun _ => ⟨fun w => ?_, fun w => ?_⟩, fun w => absurd (nI_le (by omega) (by omega)) w⟩
      · rw [lg_cmp_eq, neS_eq hpl] at w
        refine hq l ?_
        obtain ⟨a1, a2⟩ := a
        cases a2 with
        | none => exact hl
        | some q => have := hne q rfl; rw [show oS s (some q) = s q from rfl, this] at w; cases w
      · rw [lg_cmp_eq, neS_eq hpl] at w
        refine hq p ?_
        obtain ⟨a1, a2⟩ := a
        cases a2 with
        | none => exact absurd (by unfold neS; rw [List.any_eq_false]; intro x _; exact Bool.false_ne_true) w
        | some q => exact hpl
    | succ n ih =>
      intro c a l p hc hec hl hpl hne hq
      have hcl : c < R.length := by omega
      obtain ⟨ok, _, _, _, _, _, f32, _⟩ := hE.2.2.2 c hcl
      have o1 := ok.1
      have hsc := hs c hec hcl
      have vc : vp_in (nI c) 60 := vp_in_nI (by omega) (by decide)
      have a35 := h.aL
      have e1 : pkF R H s e (n + 1) c a = pkF R H s e n (c + 1) (if pr R c = e + 1 ∧ neS (s c) = true then (some c, if neS (fun x => s c x && H x) = true then a.2 else some c) else a) := rfl
      rw [e1] at hq
      have nx : ∀ (a' : Option Nat × Option Nat) (l' p' : Int64), a' = (if pr R c = e + 1 ∧ neS (s c) = true then (some c, if neS (fun x => s c x && H x) = true then a.2 else some c) else a) → bt l' (oS s a'.1) → bt p' (oS s a'.2) → (∀ q, a'.2 = some q → neS (s q) = true) → w_Mo_alternative_79 post (w_Mo_alternative_10 post (n + 1)) (ad 57) (nI e) l' p' (nI c) f := by
        intro a' l' p' ea hl' hp' hne'
        show w_Mo_alternative_10 post (n + 1) (ad 57) (nI e) l' p' (nI c + 1) f
        rw [nI_1]
        rw [← ea] at hq
        exact ih (c + 1) a' l' p' (by omega) (by omega) hl' hp' hne' hq
      refine ⟨nI R.length, ⟨_, h.2.2.1, by rw [← hE.1]; rfl⟩, fun w => absurd w (by rw [nI_leI (by omega) (by omega)]; omega), fun _ => ⟨_, ⟨_, h.2.2.1, rfl⟩, _, _, h.ai 32 (t := 0) rfl (by decide) (by decide), vc, ?_⟩⟩
      rw [nI_cl c (by omega), f32, iI_nI (by omega) (by omega)]
      refine ⟨fun w => nx a l p (by rw [if_neg (fun v => w v.1)]) hl hpl hne, fun w => ⟨_, ⟨_, h.2.2.1, rfl⟩, _, _, a35, vc, ?_⟩⟩
      rw [lg_cmp_eq, neS_eq hsc, Bool.not_eq_false]
      refine ⟨fun w1 => ⟨_, ⟨_, h.2.2.1, rfl⟩, _, _, a35, vc, _, ⟨_, h.2.2.1, rfl⟩, _, _, a35, vc, _, ⟨_, h.2.2.1, rfl⟩, ?_⟩, fun w1 => nx a l p (by rw [if_neg (fun v => by rw [w1] at v; cases v.2)]) hl hpl hne⟩
      rw [lg_cmp_eq, neS_eq (bt_and hsc hH), Bool.not_eq_false]
      refine ⟨fun w2 => ?_, fun w2 => ⟨_, ⟨_, h.2.2.1, rfl⟩, _, _, a35, vc, ?_⟩⟩
      · refine nx (some c, a.2) _ _ (by rw [if_pos ⟨w, w1⟩, if_pos w2]) hsc hpl hne
      · refine nx (some c, some c) _ _ (by rw [if_pos ⟨w, w1⟩, if_neg (by rw [w2]; decide)]) hsc hsc (fun q hq => by cases hq; exact w1)
  refine ⟨(R.length - (e + 1)) + 1, ?_⟩
  rw [nI_1]
  exact loop (R.length - (e + 1)) (e + 1) (none, none) 0 0 (by omega) (by omega) bt_0 bt_0 (fun q hq => by cases hq) hp
end YAt
