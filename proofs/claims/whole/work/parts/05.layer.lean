/-! LAYER 0. The heap as a map: an address to an object (its class's place, its fields) or an array (its type's place, its length, its contents). Rows of the kit over it. -/
abbrev xE : Type := (Nat × vp_A) ⊕ (Nat × List Value)
abbrev xhp : Type := Nat → Option xE
/-- classes' numbers and slots, array classes by the places of xTY, the literals' addresses -/
abbrev xG : Type := va_G × (Nat → ClassId) × (Nat → Nat) × (Nat → Nat)
def xtr (kk : Nat → ClassId) : xE → va_E
  | .inl (t, x) => .inl (kk t, x)
  | .inr o => .inr o
def xg (kk : Nat → ClassId) (f : xhp) : Nat → va_E := fun a => match f a with
  | some e => xtr kk e
  | none => .inr (0, [])
def xHP (G : xG) (f : xhp) (H : Heap) : Prop := ∃ L : List Nat, L.Nodup ∧ (∀ a, a ∈ L ↔ (f a).isSome = true) ∧ va_P G.1 vwCl (va_pl L (xg G.2.1 f)) H
def xA (f : xhp) (sz : Nat) : Nat → Prop := fun q => (f q).isSome = true ∨ sz ≤ q
def xW (G : xG) (A : Nat → Prop) (s : State) (f : xhp) (H : Heap) (locs : List Loc) : Prop := xHP G f H ∧ (∀ a, (f a).isSome = true → A a) ∧ va_S A s.heap H locs
def xup (f : xhp) (a : Nat) (e : xE) : xhp := fun j => if j = a then some e else f j
def xlet {α : Sort _} {β : Sort _} (a : α) (k : α → β) : β := k a
def xV (f : xhp) (a ci k : Nat) (v : Value) : Prop := ∃ fs : List Value, f a = some (.inr (ci, fs)) ∧ fs[k]? = some v
def xO (f : xhp) (a ci : Nat) : Prop := ∃ fs : List Value, f a = some (.inr (ci, fs))
def xbI (g : Nat → Int32) : (Nat → Int32) ⊕ (Nat → Int64) ⊕ (Nat → UInt32) ⊕ (Nat → UInt64) ⊕ (Nat → Option Nat) := .inl g
def xbR (g : Nat → Option Nat) : (Nat → Int32) ⊕ (Nat → Int64) ⊕ (Nat → UInt32) ⊕ (Nat → UInt64) ⊕ (Nat → Option Nat) := .inr (.inr (.inr (.inr g)))
def xB (f : xhp) (a t n : Nat) (b : (Nat → Int32) ⊕ (Nat → Int64) ⊕ (Nat → UInt32) ⊕ (Nat → UInt64) ⊕ (Nat → Option Nat)) : Prop := f a = some (.inl (t, n, b))
abbrev xbd : Type := (Nat → Int32) ⊕ (Nat → Int64) ⊕ (Nat → UInt32) ⊕ (Nat → UInt64) ⊕ (Nat → Option Nat)
def xbL (g : Nat → Int64) : xbd := .inr (.inl g)
def xz (v : Int32) : Prop := v = 0 ∨ v = 1
theorem xup_self (f : xhp) (a : Nat) (e : xE) : xup f a e a = some e := if_pos rfl
theorem xup_ne (f : xhp) {a b : Nat} (e : xE) (h : b ≠ a) : xup f a e b = f b := if_neg h
theorem xg_up (kk : Nat → ClassId) (f : xhp) (a : Nat) (e : xE) : xg kk (xup f a e) = va_up (xg kk f) a (xtr kk e) := by
  funext j
  by_cases h : j = a
  · subst h; simp [xg, xup, va_up]
  · simp [xg, xup, va_up, h]
theorem xpl_D {A : Nat → Prop} {L : List Nat} {F : Nat → va_E} (hn : L.Nodup) (hA : ∀ a ∈ L, A a) : va_D A (va_pl L F) := by
  refine ⟨fun i j p q hi hj e => ?_, fun k q hk => ?_⟩
  · simp only [va_pl, List.getElem?_map] at hi hj
    obtain ⟨a, ha, rfl⟩ := Option.map_eq_some_iff.mp hi
    obtain ⟨b, hb, rfl⟩ := Option.map_eq_some_iff.mp hj
    have e : a = b := e
    subst e
    obtain ⟨h1, h2⟩ := List.getElem?_eq_some_iff.mp ha
    obtain ⟨h3, h4⟩ := List.getElem?_eq_some_iff.mp hb
    exact (List.getElem?_inj h1 hn).mp (ha.trans hb.symm)
  · simp only [va_pl, List.getElem?_map] at hk
    obtain ⟨a, ha, rfl⟩ := Option.map_eq_some_iff.mp hk
    exact hA a (List.mem_of_getElem? ha)
/-- the pool's place of a cell -/
theorem xHP.place {G : xG} {f : xhp} {H : Heap} {a : Nat} {e : xE} (h : xHP G f H) (hf : f a = some e) : ∃ (L : List Nat) (k : Nat), L.Nodup ∧ (∀ a, a ∈ L ↔ (f a).isSome = true) ∧ va_P G.1 vwCl (va_pl L (xg G.2.1 f)) H ∧ (va_pl L (xg G.2.1 f))[k]? = some (a, xtr G.2.1 e) ∧ a ∈ L := by
  obtain ⟨L, hn, hd, hP⟩ := h
  have ha : a ∈ L := (hd a).mpr (by rw [hf]; rfl)
  obtain ⟨k, hk⟩ := va_pl_get (X := []) (f := xg G.2.1 f) ha
  refine ⟨L, k, hn, hd, hP, ?_, ha⟩
  have e1 : xg G.2.1 f a = xtr G.2.1 e := by simp [xg, hf]
  rw [← e1]
  exact hk
/-- the pool behind a write -/
theorem xHP.wrote {G : xG} {A : Nat → Prop} {f : xhp} {H : Heap} {L : List Nat} {k a : Nat} {e0 e : xE} (hn : L.Nodup) (hd : ∀ a, a ∈ L ↔ (f a).isSome = true) (hf : f a = some e0) (ha : a ∈ L) (hD : va_D A (va_pl L (xg G.2.1 f))) (hk : (va_pl L (xg G.2.1 f))[k]? = some (a, xtr G.2.1 e0))
    (hP : va_P G.1 vwCl ((va_pl L (xg G.2.1 f)).set k (a, xtr G.2.1 e)) H) : xHP G (xup f a e) H := by
  have e1 : xg G.2.1 f a = xtr G.2.1 e0 := by simp [xg, hf]
  have h2 := va_pl_set (X := []) (e := xtr G.2.1 e) hD ha (by rw [e1]; exact hk)
  simp only [List.nil_append] at h2
  rw [h2, ← xg_up] at hP
  refine ⟨L, hn, fun b => ?_, hP⟩
  by_cases hb : b = a
  · subst hb; simp [xup, ha]
  · rw [xup_ne _ _ hb]; exact hd b
theorem xA_dom {f : xhp} {a : Nat} {A : Nat → Prop} {e0 e : xE} (hf : f a = some e0) (h : ∀ a, (f a).isSome = true → A a) : ∀ b, (xup f a e b).isSome = true → A b := by
  intro b hb
  by_cases hx : b = a
  · subst hx; exact h b (by rw [hf]; rfl)
  · rw [xup_ne _ _ hx] at hb; exact h b hb
abbrev xnS : Nat := 17
def xlenS : List Nat := [12, 25, 19, 8, 8, 4, 14, 10, 5, 9, 10, 21, 16, 10, 4, 4, 6]
def xbytS : List (List Int32) := [[99, 111, 110, 116, 101, 110, 116, 45, 116, 121, 112, 101], [99, 111, 110, 116, 101, 110, 116, 45, 116, 114, 97, 110, 115, 102, 101, 114, 45, 101, 110, 99, 111, 100, 105, 110, 103], [99, 111, 110, 116, 101, 110, 116, 45, 100, 105, 115, 112, 111, 115, 105, 116, 105, 111, 110], [98, 111, 117, 110, 100, 97, 114, 121], [102, 105, 108, 101, 110, 97, 109, 101], [110, 97, 109, 101], [109, 101, 115, 115, 97, 103, 101, 47, 114, 102, 99, 56, 50, 50], [116, 101, 120, 116, 47, 112, 108, 97, 105, 110], [116, 101, 120, 116, 47], [116, 101, 120, 116, 47, 104, 116, 109, 108], [109, 117, 108, 116, 105, 112, 97, 114, 116, 47], [109, 117, 108, 116, 105, 112, 97, 114, 116, 47, 97, 108, 116, 101, 114, 110, 97, 116, 105, 118, 101], [109, 117, 108, 116, 105, 112, 97, 114, 116, 47, 100, 105, 103, 101, 115, 116], [97, 116, 116, 97, 99, 104, 109, 101, 110, 116], [55, 98, 105, 116], [56, 98, 105, 116], [98, 105, 110, 97, 114, 121]]
/-- the literals: class, place in its pool, text, number -/
def xstr : List (String × Nat × String × Nat) := [("MailParts", 35, "content-type", 0), ("MailParts", 44, "content-transfer-encoding", 1), ("MailParts", 49, "content-disposition", 2), ("MailParts", 54, "boundary", 3), ("MailParts", 59, "filename", 4), ("MailParts", 64, "name", 5), ("MailParts", 244, "message/rfc822", 6), ("MailParts", 296, "text/plain", 7), ("MailParts", 231, "text/", 8), ("MailParts", 237, "text/html", 9), ("MailParts", 242, "multipart/", 10), ("MailParts", 246, "multipart/alternative", 11), ("MailParts", 251, "multipart/digest", 12), ("MailParts", 259, "attachment", 13), ("MailParts", 280, "7bit", 14), ("MailParts", 282, "8bit", 15), ("MailParts", 284, "binary", 16)]
theorem kx_max_static : Cond.static Lib.Math.max.name ∈ lw_tbl := kw_27
theorem kx_min_static : Cond.static Lib.Math.min.name ∈ lw_tbl := kw_390
theorem kx_max_init : Cond.initialized "java/lang/Math" ∈ lw_tbl := kw_3
theorem kx_max_code : Cond.code Lib.Math.max.name Lib.Math.max.code 2 (some .int) ∈ lw_tbl := kw_28
theorem kx_min_code : Cond.code Lib.Math.min.name Lib.Math.min.code 2 (some .int) ∈ lw_tbl := kw_391
theorem kx_obj_inst : Cond.instanceMethod objectInit ∈ lw_tbl := kw_18
theorem kx_obj_code : Cond.code objectInit ⟨#[0xb1]⟩ 1 none ∈ lw_tbl := kw_19
