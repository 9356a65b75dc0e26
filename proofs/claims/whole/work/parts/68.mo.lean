/-! long fields and the long array; bits -/
section YLo
variable {b : xhp} {ad : Nat → Nat} {y : yS} {f : xhp}
theorem m_wl (h : yM b f ad y) {k : Nat} (hk : k = 36 ∨ k = 37) {v : Int64} {Q : xhp → Prop} (hp : ∀ f2, yM b f2 ad (y.1, y.2.1, y.2.2.1, va_up y.2.2.2 k v) → Q f2) : ∃ fs : List Value, f (ad 57) = some (.inr (5, fs)) ∧ k < fs.length ∧ ∀ f2 : xhp, f2 = xup f (ad 57) (.inr (5, fs.set k (.long v))) → Q f2 := by
  refine ⟨_, h.2.2.1, by rcases hk with q | q <;> (subst q; show _ < 57; decide), fun f2 e => hp f2 ?_⟩
  subst e
  refine h.setO ?_
  rcases hk with q | q <;> (subst q; rfl)
theorem m_wL (h : yM b f ad y) {j : Nat} (hj : j < 60) {v v' : Int64} (hv : v = v') {Q : xhp → Prop} (hp : ∀ f2, yM b f2 ad (y.1, va_up y.2.1 j v', y.2.2) → Q f2) : ∃ (n : Nat) (g : Nat → Int64), xB f (ad 35) 4 n (xbL g) ∧ vp_in (nI j) n ∧ ∀ f2 : xhp, f2 = xup f (ad 35) (.inl (4, n, xbL (vp_updL g (nI j).toNatClampNeg v))) → Q f2 := by
  refine ⟨_, _, h.aL, vp_in_nI hj (by decide), fun f2 e => hp f2 ?_⟩
  rw [nI_cl j (by omega), hv] at e
  have := h.setA (k := 35) (y' := (y.1, va_up y.2.1 j v', y.2.2)) (by decide) rfl (fun i hi => by unfold ybd; rw [if_neg hi, if_neg hi])
  subst e
  exact this
end YLo
/-- the bits of a long -/
def bt (v : Int64) (S : Nat → Bool) : Prop := (∀ x, x < 64 → v.toBitVec.getLsbD x = S x) ∧ ∀ x, 60 ≤ x → S x = false
theorem bt_0 : bt 0 (fun _ => false) := ⟨fun x _ => by show (0#64).getLsbD x = false; simp, fun _ _ => rfl⟩
theorem bt_or {v w : Int64} {S T : Nat → Bool} (h1 : bt v S) (h2 : bt w T) : bt (v ||| w) (fun x => S x || T x) := by
  refine ⟨fun x hx => ?_, fun x hx => by dsimp only; rw [h1.2 x hx, h2.2 x hx]; rfl⟩
  rw [Int64.toBitVec_or, BitVec.getLsbD_or, h1.1 x hx, h2.1 x hx]
theorem bt_one : ∀ i, i < 60 → (1 <<< (Int32.toInt64 (nI i) &&& 63) : Int64).toBitVec = 1#64 <<< i := by decide +kernel
theorem bt_sh {i : Nat} (hi : i < 60) : bt (1 <<< (Int32.toInt64 (nI i) &&& 63)) (fun x => decide (x = i)) := by
  refine ⟨fun x hx => ?_, fun x hx => decide_eq_false (by omega)⟩
  rw [bt_one i hi, BitVec.getLsbD_shiftLeft]
  by_cases e : x = i
  · subst e; simp [hx]
  · show _ = decide (x = i)
    rw [decide_eq_false e]
    by_cases c : x < i
    · simp [c]
    · rw [BitVec.getLsbD_one]
      have : x - i ≠ 0 := by omega
      simp [this]
theorem bt_eq0 {v : Int64} {S : Nat → Bool} (h : bt v S) : v = 0 ↔ ∀ x, S x = false := by
  constructor
  · intro e x
    by_cases c : x < 64
    · rw [← h.1 x c, e]; show (0#64).getLsbD x = false; simp
    · exact h.2 x (by omega)
  · intro hs
    apply Int64.toBitVec_inj.mp
    apply BitVec.eq_of_getLsbD_eq
    intro i hi
    rw [h.1 i hi, hs i]
    show _ = (0#64).getLsbD i
    simp
theorem bt_and {v w : Int64} {S T : Nat → Bool} (h1 : bt v S) (h2 : bt w T) : bt (v &&& w) (fun x => S x && T x) := by
  refine ⟨fun x hx => ?_, fun x hx => by dsimp only; rw [h1.2 x hx]; rfl⟩
  rw [Int64.toBitVec_and, BitVec.getLsbD_and, h1.1 x hx, h2.1 x hx]
theorem bt_shr : ∀ i, i < 60 → (Int32.toInt64 (nI i) &&& 63 : Int64).toBitVec.toNat % 64 = i ∧ ((Int32.toInt64 (nI i) &&& 63 : Int64).toBitVec.smod 64#64).toNat = i := by decide +kernel
