/-! writes to an ENTITY; describe -/
theorem zent_set (v : Nat → Int32) (x : Int32) : ∀ k, k < 17 → (zent v).set k (.int x) = zent (va_up v k x)
  | 0, _ | 1, _ | 2, _ | 3, _ | 4, _ | 5, _ | 6, _ | 7, _ | 8, _ | 9, _ | 10, _ | 11, _ | 12, _ | 13, _ | 14, _ | 15, _ | 16, _ => rfl
  | _ + 17, h => absurd h (by omega)
theorem zent_get (v : Nat → Int32) : ∀ k, k < 17 → (zent v)[k]? = some (.int (v k))
  | 0, _ | 1, _ | 2, _ | 3, _ | 4, _ | 5, _ | 6, _ | 7, _ | 8, _ | 9, _ | 10, _ | 11, _ | 12, _ | 13, _ | 14, _ | 15, _ | 16, _ => rfl
  | _ + 17, h => absurd h (by omega)
section ZD
variable {b f : xhp} {ad sk : Nat → Nat} {z : zS}
variable {r : Nat → List Nat} {E : Nat → Nat → Int32} {t : List (Nat × Nat) × Nat × Nat} {i : Nat} {w : Nat → Int32}
theorem zMP.ef (h : zMP b f ad (r, va_up E i w, t)) (hi : i < 60) {k : Nat} (hk : k < 17) {x : Int32} (e : w k = x) : xV f (zen ad i) 0 k (.int x) := by
  refine ⟨_, h.en hi, ?_⟩
  dsimp only
  rw [zup_self, zent_get _ _ hk, e]
theorem zMP.eg (h : zMP b f ad z) {i : Nat} (hi : i < 60) {k : Nat} (hk : k < 17) {x : Int32} (e : z.2.1 i k = x) : xV f (zen ad i) 0 k (.int x) := by
  refine ⟨_, h.en hi, ?_⟩
  rw [zent_get _ _ hk, e]
theorem m_wr (h : zMP b f ad (r, va_up E i w, t)) (hi : i < 60) {k : Nat} (hk : k < 17) {x : Int32} {P : xhp → Prop} (hp : ∀ f2, zMP b f2 ad (r, va_up E i (va_up w k x), t) → P f2) : ∃ fs : List Value, f (zen ad i) = some (.inr (0, fs)) ∧ k < fs.length ∧ ∀ f2 : xhp, f2 = xup f (zen ad i) (.inr (0, fs.set k (.int x))) → P f2 := by
  refine ⟨_, h.en hi, hk, fun f2 ef => hp f2 ?_⟩
  subst ef
  dsimp only
  rw [zup_self, zent_set _ _ _ hk]
  have := h.setEnt hi (v := va_up w k x) rfl
  dsimp only at this
  rw [bx_uu] at this
  exact this
theorem zMP.e0 (h : zMP b f ad (r, E, t)) (i : Nat) : zMP b f ad (r, va_up E i (E i), t) := by
  have : va_up E i (E i) = E := by
    funext k
    by_cases e : k = i
    · subst e; exact zup_self _ _ _
    · exact zup_ne _ _ e
  rw [this]; exact h
theorem nI_kd {k : Nat} (hk : k ≤ 2) : nI k = (0 : Int32) ↔ k = 0 := nI_eq (b := 0) (by omega) (by omega)
theorem zb_n0 {q : Bool} : ¬ zb q = 0 ↔ q = true := by cases q <;> simp [zb]
theorem m_d249 (h : zMP b f ad (r, va_up E i w, t)) (hi : i < 60) {q : Bool} {post : xhp → Prop} (hp : ∀ f', zMP b f' ad (r, va_up E i (va_up (va_up w 12 (zb q)) 15 (-1)), t) → post f') : w_Mp_describe_249 sk post (zen ad i) (zb q) (zen ad i) f :=
  ⟨zb_xz q, m_wr h hi (by decide) (fun f2 h2 => m_wr h2 hi (by decide) (fun f4 h4 => hp f4 h4))⟩
theorem m_d222 (h : zMP b f ad (r, va_up E i w, t)) (hi : i < 60) {q hg tx : Bool} {kd : Nat} (hk : kd ≤ 2) (e0 : w 0 = nI kd) (e3 : w 3 = zb hg) {post : xhp → Prop} (hp : ∀ f', zMP b f' ad (r, va_up E i (va_up (va_up (va_up w 14 (zb q)) 12 (zb (decide (kd = 0) && (hg || !tx)))) 15 (-1)), t) → post f') : w_Mp_describe_222 sk post (zen ad i) (zb tx) (zb q) (zen ad i) f := by
  refine ⟨zb_xz q, m_wr h hi (by decide) (fun f2 h2 => ⟨nI kd, h2.ef hi (by decide) (by rw [zup_ne _ _ (by decide)]; exact e0), fun c => ?_, fun c => ⟨zb hg, h2.ef hi (by decide) (by rw [zup_ne _ _ (by decide)]; exact e3), fun c1 => ?_, fun c1 => ⟨fun c2 => ?_, fun c2 => ?_⟩⟩⟩)⟩
  · rw [nI_kd hk] at c
    refine m_d249 (q := false) h2 hi (fun f' hf => hp f' ?_)
    rw [decide_eq_false c, Bool.false_and]; exact hf
  · rw [nI_kd hk] at c; rw [zb_n0] at c1
    refine m_d249 (q := true) h2 hi (fun f' hf => hp f' ?_)
    rw [decide_eq_true c, c1]; exact hf
  · rw [nI_kd hk] at c; rw [zb_0] at c1; rw [zb_n0] at c2
    refine m_d249 (q := false) h2 hi (fun f' hf => hp f' ?_)
    rw [decide_eq_true c, c1, c2]; exact hf
  · rw [nI_kd hk] at c; rw [zb_0] at c1 c2
    refine m_d249 (q := true) h2 hi (fun f' hf => hp f' ?_)
    rw [decide_eq_true c, c1, c2]; exact hf
theorem m_d202 (h : zMP b f ad (r, va_up E i w, t)) (hi : i < 60) {q hg tx ht : Bool} {kd : Nat} (hk : kd ≤ 2) (e0 : w 0 = nI kd) (e3 : w 3 = zb hg) {post : xhp → Prop} (hp : ∀ f', zMP b f' ad (r, va_up E i (va_up (va_up (va_up (va_up w 13 (zb q)) 14 (zb (q && ht))) 12 (zb (decide (kd = 0) && (hg || !tx)))) 15 (-1)), t) → post f') : w_Mp_describe_202 sk post (zen ad i) (zb tx) (zb ht) (zb q) (zen ad i) f := by
  refine ⟨zb_xz q, m_wr h hi (by decide) (fun f2 h2 => ⟨zb q, h2.ef hi (by decide) (zup_self _ _ _), fun c => ?_, fun c => ⟨fun c1 => ?_, fun c1 => ?_⟩⟩)⟩
  · rw [zb_0] at c
    refine m_d222 (q := false) h2 hi hk (by rw [zup_ne _ _ (by decide)]; exact e0) (by rw [zup_ne _ _ (by decide)]; exact e3) (fun f' hf => hp f' ?_)
    rw [c] at hf ⊢; exact hf
  · rw [zb_n0] at c; rw [zb_0] at c1
    refine m_d222 (q := false) h2 hi hk (by rw [zup_ne _ _ (by decide)]; exact e0) (by rw [zup_ne _ _ (by decide)]; exact e3) (fun f' hf => hp f' ?_)
    rw [c, c1]; rw [c] at hf; exact hf
  · rw [zb_n0] at c c1
    refine m_d222 (q := true) h2 hi hk (by rw [zup_ne _ _ (by decide)]; exact e0) (by rw [zup_ne _ _ (by decide)]; exact e3) (fun f' hf => hp f' ?_)
    rw [c, c1]; rw [c] at hf; exact hf
theorem m_d178 (h : zMP b f ad (r, va_up E i w, t)) (hi : i < 60) {hg tx ht : Bool} {kd : Nat} (hk : kd ≤ 2) (e0 : w 0 = nI kd) (e3 : w 3 = zb hg) {post : xhp → Prop} (hp : ∀ f', zMP b f' ad (r, va_up E i (va_up (va_up (va_up (va_up w 13 (zb (decide (kd = 0) && (tx && !hg)))) 14 (zb ((decide (kd = 0) && (tx && !hg)) && ht))) 12 (zb (decide (kd = 0) && (hg || !tx)))) 15 (-1)), t) → post f') : w_Mp_describe_178 sk post (zen ad i) (zb tx) (zb ht) f := by
  refine ⟨nI kd, h.ef hi (by decide) e0, fun c => ?_, fun c => ⟨fun c1 => ?_, fun c1 => ⟨zb hg, h.ef hi (by decide) e3, fun c2 => ?_, fun c2 => ?_⟩⟩⟩
  · rw [nI_kd hk] at c
    rw [decide_eq_false c, Bool.false_and] at hp
    refine m_d202 (q := false) (hg := hg) (kd := kd) h hi hk e0 e3 (fun f' hf => hp f' ?_)
    rw [decide_eq_false c] at hf; exact hf
  · rw [nI_kd hk] at c; rw [zb_0] at c1
    refine m_d202 (q := false) (hg := hg) (kd := kd) h hi hk e0 e3 (fun f' hf => hp f' ?_)
    rw [decide_eq_true c, c1] at hf ⊢; exact hf
  · rw [nI_kd hk] at c; rw [zb_n0] at c1 c2
    refine m_d202 (q := false) (hg := hg) (kd := kd) h hi hk e0 e3 (fun f' hf => hp f' ?_)
    rw [decide_eq_true c, c1, c2] at hf ⊢; exact hf
  · rw [nI_kd hk] at c; rw [zb_n0] at c1; rw [zb_0] at c2
    refine m_d202 (q := true) (hg := hg) (kd := kd) h hi hk e0 e3 (fun f' hf => hp f' ?_)
    rw [decide_eq_true c, c1, c2] at hf ⊢; exact hf
end ZD
