section
variable {p : Program} {l : Launch} {e : Env} {R : Room} {s : State} {m : MethodId} {args : Array Value} {below : List Frame} {meth : Method} {c : Code} {G : xG} {f0 : xhp} {sz : Nat}
/-! MailParts$Value.aheadOfBlanks(II)I -/
def w_Va_aheadOfBlanks_29 (post : Int32 → xhp → Prop) (p3 : Int32) (f : xhp) : Prop :=
  post p3 f
set_option maxHeartbeats 4000000 in
set_option maxRecDepth 100000 in
theorem s_Va_aheadOfBlanks_29 {post : Int32 → xhp → Prop} (hin : meth.name = "aheadOfBlanks") (hX : xX p R s m args meth c G (xA f0 sz) b_Va_aheadOfBlanks 4 "MailParts$Value" (some .int) 1 0 0) {p3 : Int32} {f : xhp} {H : Heap} {locs : List Loc} {ls : Array Slot} (hl : lv_has ls 4 [(3, .int p3)]) (hW : xW G (xA f0 sz) s f H locs) (h : w_Va_aheadOfBlanks_29 post p3 f) : W p l e R s m args below meth c H locs 0 0 (MQ below (va_Qi post (xAt G f0 sz) (xA f0 sz)) args s 0 0 (xA f0 sz)) (F0 m 29 ls []) := by
  have hx := hX.1
  have hb := hX.2.1
  refine lv_iload_n hx hb d_Va_aheadOfBlanks_29 rfl (lv_at hl 0 rfl) ?_
  exact x_iret hX hW h d_Va_aheadOfBlanks_30
def w_Va_aheadOfBlanks_2 (post : Int32 → xhp → Prop) : Nat → Nat → Int32 → Int32 → xhp → Prop
  | 0, _, _, _, _ => False
  | n + 1, p0, p1, p3, f =>
    ((p3 ≤ p1 →
      w_Va_aheadOfBlanks_29 post p3 f) ∧
    (¬ p3 ≤ p1 →
      ∃ a1 : Nat, xV f p0 3 0 (.ref a1) ∧
      xO f a1 2 ∧
      w_Ro_get (fun r3 f2 =>
        w_Mp_isBlank (fun r5 f4 =>
          ((r5 = 0 →
            w_Va_aheadOfBlanks_29 post p3 f4) ∧
          (¬ r5 = 0 →
            w_Va_aheadOfBlanks_2 post n p0 p1 (p3 + (-1)) f4))) r3 f2) a1 (p3 - 1) f))
set_option maxHeartbeats 4000000 in
set_option maxRecDepth 100000 in
theorem s_Va_aheadOfBlanks_2 {post : Int32 → xhp → Prop} (hin : meth.name = "aheadOfBlanks") (hX : xX p R s m args meth c G (xA f0 sz) b_Va_aheadOfBlanks 4 "MailParts$Value" (some .int) 1 0 0) : ∀ (n : Nat) {p0 : Nat} {p1 : Int32} {p3 : Int32} {f : xhp} {H : Heap} {locs : List Loc} {ls : Array Slot}, lv_has ls 4 [(0, .ref p0), (1, .int p1), (3, .int p3)] → xW G (xA f0 sz) s f H locs → w_Va_aheadOfBlanks_2 post n p0 p1 p3 f → W p l e R s m args below meth c H locs 0 0 (MQ below (va_Qi post (xAt G f0 sz) (xA f0 sz)) args s 0 0 (xA f0 sz)) (F0 m 2 ls []) := by
  have hx := hX.1
  have hb := hX.2.1
  intro n
  induction n with
  | zero => intro p0 p1 p3 f H locs ls hl hW h; exact h.elim
  | succ n ih =>
    intro p0 p1 p3 f H locs ls hl hW h
    refine lv_iload_n hx hb d_Va_aheadOfBlanks_2 rfl (lv_at hl 2 rfl) ?_
    refine lv_iload_n hx hb d_Va_aheadOfBlanks_3 rfl (lv_at hl 1 rfl) ?_
    refine lv_icmp_le (tgt := 29) hx hb d_Va_aheadOfBlanks_4 (by decide) (fun qc => ?_) (fun qc => ?_)
    · replace h := h.1 qc
      exact s_Va_aheadOfBlanks_29 hin hX (lv_sub hl [2] rfl) hW h
    · replace h := h.2 qc
      refine lv_aload_n hx hb d_Va_aheadOfBlanks_7 rfl (lv_at hl 0 rfl) ?_
      obtain ⟨a1, hv, h⟩ := h
      refine x_get hX hW hv i_Va rfl (by decide) kw_71 rfl d_Va_aheadOfBlanks_8 ?_
      refine lv_iload_n hx hb d_Va_aheadOfBlanks_11 rfl (lv_at hl 2 rfl) ?_
      refine lv_iconst (v := 1) hx hb d_Va_aheadOfBlanks_12 (by decide) ?_
      refine lv_isub hx hb d_Va_aheadOfBlanks_13 ?_
      obtain ⟨ho, h⟩ := h
      refine x_calli hX hW (x_runV (rest := []) hX hW (c_Ro_get h _) ho rfl kw_367 kw_271 kw_272 kw_2 kw_273 yk_Ro_get (by decide) (by decide) rfl hl.1 rfl (Nat.le_of_ble_eq_true rfl) d_Va_aheadOfBlanks_14 ⟨Nat.zero_le _, Nat.zero_le _⟩) (fun r3 f2 H locs h hW => ?_)
      refine x_calli hX hW (x_runSN (rest := []) hX hW (c_Mp_isBlank h _) kw_376 kw_311 kw_1 kw_312 yk_Mp_isBlank (by decide) (by decide) rfl hl.1 rfl (Nat.le_of_ble_eq_true rfl) d_Va_aheadOfBlanks_17 ⟨Nat.zero_le _, Nat.zero_le _⟩) (fun r5 f4 H locs h hW => ?_)
      refine lv_if_eq (tgt := 29) hx hb d_Va_aheadOfBlanks_20 (by decide) (fun qc => ?_) (fun qc => ?_)
      · replace h := h.1 qc
        exact s_Va_aheadOfBlanks_29 hin hX (lv_sub hl [2] rfl) hW h
      · replace h := h.2 qc
        refine lv_iinc (v := p3 + (-1)) (lv' := [(3, .int (p3 + (-1))), (0, .ref p0), (1, .int p1)]) hx hb d_Va_aheadOfBlanks_23 hl (k := 2) rfl rfl (by decide) rfl (fun ls hl => ?_)
        refine lv_goto (tgt := 2) hx hb d_Va_aheadOfBlanks_26 (by decide) ?_
        exact ih (lv_sub hl [1, 2, 0] rfl) hW h
def w_Va_aheadOfBlanks (post : Int32 → xhp → Prop) (p0 : Nat) (p1 : Int32) (p2 : Int32) (f : xhp) : Prop :=
  ∃ u2 : Nat, w_Va_aheadOfBlanks_2 post u2 p0 p1 p2 f
set_option maxHeartbeats 4000000 in
set_option maxRecDepth 100000 in
theorem c_Va_aheadOfBlanks {l : Launch} {G : xG} {post : Int32 → xhp → Prop} {p0 : Nat} {p1 : Int32} {p2 : Int32} {f : xhp} (h : w_Va_aheadOfBlanks post p0 p1 p2 f) : xMi l G y_Va_aheadOfBlanks b_Va_aheadOfBlanks 4 (some .int) 1 0 0 [.ref p0, .int p1, .int p2] f post := by
  refine x_met (by decide) (Nat.le_of_ble_eq_true rfl) ?_
  intro sz p e s m below meth c ls hin hX hl hW
  have hl : lv_has ls 4 [(0, .ref p0), (1, .int p1), (2, .int p2)] := hl
  have hx := hX.1
  have hb := hX.2.1
  refine lv_iload_n hx hb d_Va_aheadOfBlanks_0 rfl (lv_at hl 2 rfl) ?_
  refine lv_istore_n (i := 3) (lv' := [(3, .int p2), (0, .ref p0), (1, .int p1), (2, .int p2)]) hx hb d_Va_aheadOfBlanks_1 rfl hl (by decide) rfl (fun ls hl => ?_)
  obtain ⟨u2, h⟩ := h
  exact s_Va_aheadOfBlanks_2 hin hX u2 (lv_sub hl [1, 2, 0] rfl) hW h
/-! MailParts$Value.behindBlanks(II)I -/
def w_Va_behindBlanks_27 (post : Int32 → xhp → Prop) (p3 : Int32) (f : xhp) : Prop :=
  post p3 f
set_option maxHeartbeats 4000000 in
set_option maxRecDepth 100000 in
theorem s_Va_behindBlanks_27 {post : Int32 → xhp → Prop} (hin : meth.name = "behindBlanks") (hX : xX p R s m args meth c G (xA f0 sz) b_Va_behindBlanks 4 "MailParts$Value" (some .int) 1 0 0) {p3 : Int32} {f : xhp} {H : Heap} {locs : List Loc} {ls : Array Slot} (hl : lv_has ls 4 [(3, .int p3)]) (hW : xW G (xA f0 sz) s f H locs) (h : w_Va_behindBlanks_27 post p3 f) : W p l e R s m args below meth c H locs 0 0 (MQ below (va_Qi post (xAt G f0 sz) (xA f0 sz)) args s 0 0 (xA f0 sz)) (F0 m 27 ls []) := by
  have hx := hX.1
  have hb := hX.2.1
  refine lv_iload_n hx hb d_Va_behindBlanks_27 rfl (lv_at hl 0 rfl) ?_
  exact x_iret hX hW h d_Va_behindBlanks_28
def w_Va_behindBlanks_2 (post : Int32 → xhp → Prop) : Nat → Nat → Int32 → Int32 → xhp → Prop
  | 0, _, _, _, _ => False
  | n + 1, p0, p2, p3, f =>
    ((p2 ≤ p3 →
      w_Va_behindBlanks_27 post p3 f) ∧
    (¬ p2 ≤ p3 →
      ∃ a1 : Nat, xV f p0 3 0 (.ref a1) ∧
      xO f a1 2 ∧
      w_Ro_get (fun r3 f2 =>
        w_Mp_isBlank (fun r5 f4 =>
          ((r5 = 0 →
            w_Va_behindBlanks_27 post p3 f4) ∧
          (¬ r5 = 0 →
            w_Va_behindBlanks_2 post n p0 p2 (p3 + 1) f4))) r3 f2) a1 p3 f))
set_option maxHeartbeats 4000000 in
set_option maxRecDepth 100000 in
theorem s_Va_behindBlanks_2 {post : Int32 → xhp → Prop} (hin : meth.name = "behindBlanks") (hX : xX p R s m args meth c G (xA f0 sz) b_Va_behindBlanks 4 "MailParts$Value" (some .int) 1 0 0) : ∀ (n : Nat) {p0 : Nat} {p2 : Int32} {p3 : Int32} {f : xhp} {H : Heap} {locs : List Loc} {ls : Array Slot}, lv_has ls 4 [(0, .ref p0), (2, .int p2), (3, .int p3)] → xW G (xA f0 sz) s f H locs → w_Va_behindBlanks_2 post n p0 p2 p3 f → W p l e R s m args below meth c H locs 0 0 (MQ below (va_Qi post (xAt G f0 sz) (xA f0 sz)) args s 0 0 (xA f0 sz)) (F0 m 2 ls []) := by
  have hx := hX.1
  have hb := hX.2.1
  intro n
  induction n with
  | zero => intro p0 p2 p3 f H locs ls hl hW h; exact h.elim
  | succ n ih =>
    intro p0 p2 p3 f H locs ls hl hW h
    refine lv_iload_n hx hb d_Va_behindBlanks_2 rfl (lv_at hl 2 rfl) ?_
    refine lv_iload_n hx hb d_Va_behindBlanks_3 rfl (lv_at hl 1 rfl) ?_
    refine lv_icmp_ge (tgt := 27) hx hb d_Va_behindBlanks_4 (by decide) (fun qc => ?_) (fun qc => ?_)
    · replace h := h.1 qc
      exact s_Va_behindBlanks_27 hin hX (lv_sub hl [2] rfl) hW h
    · replace h := h.2 qc
      refine lv_aload_n hx hb d_Va_behindBlanks_7 rfl (lv_at hl 0 rfl) ?_
      obtain ⟨a1, hv, h⟩ := h
      refine x_get hX hW hv i_Va rfl (by decide) kw_71 rfl d_Va_behindBlanks_8 ?_
      refine lv_iload_n hx hb d_Va_behindBlanks_11 rfl (lv_at hl 2 rfl) ?_
      obtain ⟨ho, h⟩ := h
      refine x_calli hX hW (x_runV (rest := []) hX hW (c_Ro_get h _) ho rfl kw_367 kw_271 kw_272 kw_2 kw_273 yk_Ro_get (by decide) (by decide) rfl hl.1 rfl (Nat.le_of_ble_eq_true rfl) d_Va_behindBlanks_12 ⟨Nat.zero_le _, Nat.zero_le _⟩) (fun r3 f2 H locs h hW => ?_)
      refine x_calli hX hW (x_runSN (rest := []) hX hW (c_Mp_isBlank h _) kw_376 kw_311 kw_1 kw_312 yk_Mp_isBlank (by decide) (by decide) rfl hl.1 rfl (Nat.le_of_ble_eq_true rfl) d_Va_behindBlanks_15 ⟨Nat.zero_le _, Nat.zero_le _⟩) (fun r5 f4 H locs h hW => ?_)
      refine lv_if_eq (tgt := 27) hx hb d_Va_behindBlanks_18 (by decide) (fun qc => ?_) (fun qc => ?_)
      · replace h := h.1 qc
        exact s_Va_behindBlanks_27 hin hX (lv_sub hl [2] rfl) hW h
      · replace h := h.2 qc
        refine lv_iinc (v := p3 + 1) (lv' := [(3, .int (p3 + 1)), (0, .ref p0), (2, .int p2)]) hx hb d_Va_behindBlanks_21 hl (k := 2) rfl rfl (by decide) rfl (fun ls hl => ?_)
        refine lv_goto (tgt := 2) hx hb d_Va_behindBlanks_24 (by decide) ?_
        exact ih (lv_sub hl [1, 2, 0] rfl) hW h
def w_Va_behindBlanks (post : Int32 → xhp → Prop) (p0 : Nat) (p1 : Int32) (p2 : Int32) (f : xhp) : Prop :=
  ∃ u2 : Nat, w_Va_behindBlanks_2 post u2 p0 p2 p1 f
set_option maxHeartbeats 4000000 in
set_option maxRecDepth 100000 in
theorem c_Va_behindBlanks {l : Launch} {G : xG} {post : Int32 → xhp → Prop} {p0 : Nat} {p1 : Int32} {p2 : Int32} {f : xhp} (h : w_Va_behindBlanks post p0 p1 p2 f) : xMi l G y_Va_behindBlanks b_Va_behindBlanks 4 (some .int) 1 0 0 [.ref p0, .int p1, .int p2] f post := by
  refine x_met (by decide) (Nat.le_of_ble_eq_true rfl) ?_
  intro sz p e s m below meth c ls hin hX hl hW
  have hl : lv_has ls 4 [(0, .ref p0), (1, .int p1), (2, .int p2)] := hl
  have hx := hX.1
  have hb := hX.2.1
  refine lv_iload_n hx hb d_Va_behindBlanks_0 rfl (lv_at hl 1 rfl) ?_
  refine lv_istore_n (i := 3) (lv' := [(3, .int p1), (0, .ref p0), (1, .int p1), (2, .int p2)]) hx hb d_Va_behindBlanks_1 rfl hl (by decide) rfl (fun ls hl => ?_)
  obtain ⟨u2, h⟩ := h
  exact s_Va_behindBlanks_2 hin hX u2 (lv_sub hl [1, 3, 0] rfl) hW h
/-! MailParts$Value.closing()I -/
def w_Va_closing_39 (post : Int32 → xhp → Prop) (k2 : Nat → Int32 → xhp → Prop) (p0 : Nat) (p1 : Int32) (f : xhp) : Prop :=
  k2 p0 (p1 + 1) f
set_option maxHeartbeats 4000000 in
set_option maxRecDepth 100000 in
theorem s_Va_closing_39 {post : Int32 → xhp → Prop} {k2 : Nat → Int32 → xhp → Prop} (hin : meth.name = "closing") (hX : xX p R s m args meth c G (xA f0 sz) b_Va_closing 3 "MailParts$Value" (some .int) 1 0 0) (hk2 : ∀ {p0 : Nat} {p1 : Int32} {f : xhp} {H : Heap} {locs : List Loc} {ls : Array Slot}, lv_has ls 3 [(0, .ref p0), (1, .int p1)] → xW G (xA f0 sz) s f H locs → k2 p0 p1 f → W p l e R s m args below meth c H locs 0 0 (MQ below (va_Qi post (xAt G f0 sz) (xA f0 sz)) args s 0 0 (xA f0 sz)) (F0 m 2 ls [])) {p0 : Nat} {p1 : Int32} {f : xhp} {H : Heap} {locs : List Loc} {ls : Array Slot} (hl : lv_has ls 3 [(0, .ref p0), (1, .int p1)]) (hW : xW G (xA f0 sz) s f H locs) (h : w_Va_closing_39 post k2 p0 p1 f) : W p l e R s m args below meth c H locs 0 0 (MQ below (va_Qi post (xAt G f0 sz) (xA f0 sz)) args s 0 0 (xA f0 sz)) (F0 m 39 ls []) := by
  have hx := hX.1
  have hb := hX.2.1
  refine lv_iinc (v := p1 + 1) (lv' := [(1, .int (p1 + 1)), (0, .ref p0)]) hx hb d_Va_closing_39 hl (k := 1) rfl rfl (by decide) rfl (fun ls hl => ?_)
  refine lv_goto (tgt := 2) hx hb d_Va_closing_42 (by decide) ?_
  exact hk2 (lv_sub hl [1, 0] rfl) hW h
def w_Va_closing_2 (post : Int32 → xhp → Prop) : Nat → Nat → Int32 → xhp → Prop
  | 0, _, _, _ => False
  | n + 1, p0, p1, f =>
    ∃ a1 : Nat, xV f p0 3 0 (.ref a1) ∧
    ∃ v2 : Int32, xV f a1 2 1 (.int v2) ∧
    ((v2 ≤ p1 →
      post (-1) f) ∧
    (¬ v2 ≤ p1 →
      ∃ a3 : Nat, xV f p0 3 0 (.ref a3) ∧
      xO f a3 2 ∧
      w_Ro_get (fun r5 f4 =>
        ((¬ r5 = 34 →
          ((¬ r5 = 92 →
            w_Va_closing_39 post (w_Va_closing_2 post n) p0 p1 f4) ∧
          (r5 = 92 →
            w_Va_closing_39 post (w_Va_closing_2 post n) p0 (p1 + 1) f4))) ∧
        (r5 = 34 →
          post p1 f4))) a3 p1 f))
set_option maxHeartbeats 4000000 in
set_option maxRecDepth 100000 in
theorem s_Va_closing_2 {post : Int32 → xhp → Prop} (hin : meth.name = "closing") (hX : xX p R s m args meth c G (xA f0 sz) b_Va_closing 3 "MailParts$Value" (some .int) 1 0 0) : ∀ (n : Nat) {p0 : Nat} {p1 : Int32} {f : xhp} {H : Heap} {locs : List Loc} {ls : Array Slot}, lv_has ls 3 [(0, .ref p0), (1, .int p1)] → xW G (xA f0 sz) s f H locs → w_Va_closing_2 post n p0 p1 f → W p l e R s m args below meth c H locs 0 0 (MQ below (va_Qi post (xAt G f0 sz) (xA f0 sz)) args s 0 0 (xA f0 sz)) (F0 m 2 ls []) := by
  have hx := hX.1
  have hb := hX.2.1
  intro n
  induction n with
  | zero => intro p0 p1 f H locs ls hl hW h; exact h.elim
  | succ n ih =>
    intro p0 p1 f H locs ls hl hW h
    refine lv_iload_n hx hb d_Va_closing_2 rfl (lv_at hl 1 rfl) ?_
    refine lv_aload_n hx hb d_Va_closing_3 rfl (lv_at hl 0 rfl) ?_
    obtain ⟨a1, hv, h⟩ := h
    refine x_get hX hW hv i_Va rfl (by decide) kw_71 rfl d_Va_closing_4 ?_
    obtain ⟨v2, hv, h⟩ := h
    refine x_getN hX hW hv i_Ro rfl (by decide) kw_31 rfl d_Va_closing_7 ?_
    refine lv_icmp_ge (tgt := 45) hx hb d_Va_closing_10 (by decide) (fun qc => ?_) (fun qc => ?_)
    · replace h := h.1 qc
      refine lv_iconst (v := (-1)) hx hb d_Va_closing_45 (by decide) ?_
      exact x_iret hX hW h d_Va_closing_46
    · replace h := h.2 qc
      refine lv_aload_n hx hb d_Va_closing_13 rfl (lv_at hl 0 rfl) ?_
      obtain ⟨a3, hv, h⟩ := h
      refine x_get hX hW hv i_Va rfl (by decide) kw_71 rfl d_Va_closing_14 ?_
      refine lv_iload_n hx hb d_Va_closing_17 rfl (lv_at hl 1 rfl) ?_
      obtain ⟨ho, h⟩ := h
      refine x_calli hX hW (x_runV (rest := []) hX hW (c_Ro_get h _) ho rfl kw_367 kw_271 kw_272 kw_2 kw_273 yk_Ro_get (by decide) (by decide) rfl hl.1 rfl (Nat.le_of_ble_eq_true rfl) d_Va_closing_18 ⟨Nat.zero_le _, Nat.zero_le _⟩) (fun r5 f4 H locs h hW => ?_)
      refine lv_istore_n (i := 2) (lv' := [(2, .int r5), (0, .ref p0), (1, .int p1)]) hx hb d_Va_closing_21 rfl hl (by decide) rfl (fun ls hl => ?_)
      refine lv_iload_n hx hb d_Va_closing_22 rfl (lv_at hl 0 rfl) ?_
      refine lv_bipush (v := 34) hx hb d_Va_closing_23 (by decide) ?_
      refine lv_icmp_ne (tgt := 30) hx hb d_Va_closing_25 (by decide) (fun qc => ?_) (fun qc => ?_)
      · replace h := h.1 qc
        refine lv_iload_n hx hb d_Va_closing_30 rfl (lv_at hl 0 rfl) ?_
        refine lv_bipush (v := 92) hx hb d_Va_closing_31 (by decide) ?_
        refine lv_icmp_ne (tgt := 39) hx hb d_Va_closing_33 (by decide) (fun qc => ?_) (fun qc => ?_)
        · replace h := h.1 qc
          exact s_Va_closing_39 hin hX ih (lv_sub hl [1, 2] rfl) hW h
        · replace h := h.2 qc
          refine lv_iinc (v := p1 + 1) (lv' := [(1, .int (p1 + 1)), (2, .int r5), (0, .ref p0)]) hx hb d_Va_closing_36 hl (k := 2) rfl rfl (by decide) rfl (fun ls hl => ?_)
          exact s_Va_closing_39 hin hX ih (lv_sub hl [2, 0] rfl) hW h
      · replace h := h.2 qc
        refine lv_iload_n hx hb d_Va_closing_28 rfl (lv_at hl 2 rfl) ?_
        exact x_iret hX hW h d_Va_closing_29
def w_Va_closing (post : Int32 → xhp → Prop) (p0 : Nat) (f : xhp) : Prop :=
  ∃ u2 : Nat, w_Va_closing_2 post u2 p0 1 f
set_option maxHeartbeats 4000000 in
set_option maxRecDepth 100000 in
theorem c_Va_closing {l : Launch} {G : xG} {post : Int32 → xhp → Prop} {p0 : Nat} {f : xhp} (h : w_Va_closing post p0 f) : xMi l G y_Va_closing b_Va_closing 3 (some .int) 1 0 0 [.ref p0] f post := by
  refine x_met (by decide) (Nat.le_of_ble_eq_true rfl) ?_
  intro sz p e s m below meth c ls hin hX hl hW
  have hl : lv_has ls 3 [(0, .ref p0)] := hl
  have hx := hX.1
  have hb := hX.2.1
  refine lv_iconst (v := 1) hx hb d_Va_closing_0 (by decide) ?_
  refine lv_istore_n (i := 1) (lv' := [(1, .int 1), (0, .ref p0)]) hx hb d_Va_closing_1 rfl hl (by decide) rfl (fun ls hl => ?_)
  obtain ⟨u2, h⟩ := h
  exact s_Va_closing_2 hin hX u2 (lv_sub hl [1, 0] rfl) hW h
/-! MailParts$Value.find(III)I -/
def w_Va_find_74 (post : Int32 → xhp → Prop) (k6 : Nat → Int32 → Int32 → Int32 → Int32 → xhp → Prop) (p0 : Nat) (p1 : Int32) (p3 : Int32) (p4 : Int32) (p5 : Int32) (f : xhp) : Prop :=
  k6 p0 p1 p3 p4 (p5 + 1) f
set_option maxHeartbeats 4000000 in
set_option maxRecDepth 100000 in
theorem s_Va_find_74 {post : Int32 → xhp → Prop} {k6 : Nat → Int32 → Int32 → Int32 → Int32 → xhp → Prop} (hin : meth.name = "find") (hX : xX p R s m args meth c G (xA f0 sz) b_Va_find 7 "MailParts$Value" (some .int) 1 0 0) (hk6 : ∀ {p0 : Nat} {p1 : Int32} {p3 : Int32} {p4 : Int32} {p5 : Int32} {f : xhp} {H : Heap} {locs : List Loc} {ls : Array Slot}, lv_has ls 7 [(0, .ref p0), (1, .int p1), (3, .int p3), (4, .int p4), (5, .int p5)] → xW G (xA f0 sz) s f H locs → k6 p0 p1 p3 p4 p5 f → W p l e R s m args below meth c H locs 0 0 (MQ below (va_Qi post (xAt G f0 sz) (xA f0 sz)) args s 0 0 (xA f0 sz)) (F0 m 6 ls [])) {p0 : Nat} {p1 : Int32} {p3 : Int32} {p4 : Int32} {p5 : Int32} {f : xhp} {H : Heap} {locs : List Loc} {ls : Array Slot} (hl : lv_has ls 7 [(0, .ref p0), (1, .int p1), (3, .int p3), (4, .int p4), (5, .int p5)]) (hW : xW G (xA f0 sz) s f H locs) (h : w_Va_find_74 post k6 p0 p1 p3 p4 p5 f) : W p l e R s m args below meth c H locs 0 0 (MQ below (va_Qi post (xAt G f0 sz) (xA f0 sz)) args s 0 0 (xA f0 sz)) (F0 m 74 ls []) := by
  have hx := hX.1
  have hb := hX.2.1
  refine lv_iinc (v := p5 + 1) (lv' := [(5, .int (p5 + 1)), (0, .ref p0), (1, .int p1), (3, .int p3), (4, .int p4)]) hx hb d_Va_find_74 hl (k := 4) rfl rfl (by decide) rfl (fun ls hl => ?_)
  refine lv_goto (tgt := 6) hx hb d_Va_find_77 (by decide) ?_
  exact hk6 (lv_sub hl [1, 2, 3, 4, 0] rfl) hW h
def w_Va_find_54 (post : Int32 → xhp → Prop) (k6 : Nat → Int32 → Int32 → Int32 → Int32 → xhp → Prop) (p0 : Nat) (p1 : Int32) (p3 : Int32) (p5 : Int32) (s0 : Int32) (f : xhp) : Prop :=
  w_Va_find_74 post k6 p0 p1 p3 s0 p5 f
set_option maxHeartbeats 4000000 in
set_option maxRecDepth 100000 in
theorem s_Va_find_54 {post : Int32 → xhp → Prop} {k6 : Nat → Int32 → Int32 → Int32 → Int32 → xhp → Prop} (hin : meth.name = "find") (hX : xX p R s m args meth c G (xA f0 sz) b_Va_find 7 "MailParts$Value" (some .int) 1 0 0) (hk6 : ∀ {p0 : Nat} {p1 : Int32} {p3 : Int32} {p4 : Int32} {p5 : Int32} {f : xhp} {H : Heap} {locs : List Loc} {ls : Array Slot}, lv_has ls 7 [(0, .ref p0), (1, .int p1), (3, .int p3), (4, .int p4), (5, .int p5)] → xW G (xA f0 sz) s f H locs → k6 p0 p1 p3 p4 p5 f → W p l e R s m args below meth c H locs 0 0 (MQ below (va_Qi post (xAt G f0 sz) (xA f0 sz)) args s 0 0 (xA f0 sz)) (F0 m 6 ls [])) {p0 : Nat} {p1 : Int32} {p3 : Int32} {p5 : Int32} {s0 : Int32} {f : xhp} {H : Heap} {locs : List Loc} {ls : Array Slot} (hl : lv_has ls 7 [(0, .ref p0), (1, .int p1), (3, .int p3), (5, .int p5)]) (hW : xW G (xA f0 sz) s f H locs) (h : w_Va_find_54 post k6 p0 p1 p3 p5 s0 f) : W p l e R s m args below meth c H locs 0 0 (MQ below (va_Qi post (xAt G f0 sz) (xA f0 sz)) args s 0 0 (xA f0 sz)) (F0 m 54 ls [.int s0]) := by
  have hx := hX.1
  have hb := hX.2.1
  refine lv_istore (i := 4) (lv' := [(4, .int s0), (0, .ref p0), (1, .int p1), (3, .int p3), (5, .int p5)]) hx hb d_Va_find_54 hl (by decide) rfl (fun ls hl => ?_)
  refine lv_goto (tgt := 74) hx hb d_Va_find_56 (by decide) ?_
  exact s_Va_find_74 hin hX hk6 (lv_sub hl [1, 2, 3, 0, 4] rfl) hW h
def w_Va_find_37 (post : Int32 → xhp → Prop) (k6 : Nat → Int32 → Int32 → Int32 → Int32 → xhp → Prop) (p0 : Nat) (p1 : Int32) (p3 : Int32) (p4 : Int32) (p5 : Int32) (p6 : Int32) (f : xhp) : Prop :=
  ((¬ p6 = 34 →
    ((¬ p6 = 92 →
      w_Va_find_74 post k6 p0 p1 p3 p4 p5 f) ∧
    (p6 = 92 →
      ((p4 = 0 →
        w_Va_find_74 post k6 p0 p1 p3 p4 p5 f) ∧
      (¬ p4 = 0 →
        w_Va_find_74 post k6 p0 p1 p3 p4 (p5 + 1) f))))) ∧
  (p6 = 34 →
    ((¬ p4 = 0 →
      w_Va_find_54 post k6 p0 p1 p3 p5 0 f) ∧
    (p4 = 0 →
      w_Va_find_54 post k6 p0 p1 p3 p5 1 f))))
set_option maxHeartbeats 4000000 in
set_option maxRecDepth 100000 in
theorem s_Va_find_37 {post : Int32 → xhp → Prop} {k6 : Nat → Int32 → Int32 → Int32 → Int32 → xhp → Prop} (hin : meth.name = "find") (hX : xX p R s m args meth c G (xA f0 sz) b_Va_find 7 "MailParts$Value" (some .int) 1 0 0) (hk6 : ∀ {p0 : Nat} {p1 : Int32} {p3 : Int32} {p4 : Int32} {p5 : Int32} {f : xhp} {H : Heap} {locs : List Loc} {ls : Array Slot}, lv_has ls 7 [(0, .ref p0), (1, .int p1), (3, .int p3), (4, .int p4), (5, .int p5)] → xW G (xA f0 sz) s f H locs → k6 p0 p1 p3 p4 p5 f → W p l e R s m args below meth c H locs 0 0 (MQ below (va_Qi post (xAt G f0 sz) (xA f0 sz)) args s 0 0 (xA f0 sz)) (F0 m 6 ls [])) {p0 : Nat} {p1 : Int32} {p3 : Int32} {p4 : Int32} {p5 : Int32} {p6 : Int32} {f : xhp} {H : Heap} {locs : List Loc} {ls : Array Slot} (hl : lv_has ls 7 [(0, .ref p0), (1, .int p1), (3, .int p3), (4, .int p4), (5, .int p5), (6, .int p6)]) (hW : xW G (xA f0 sz) s f H locs) (h : w_Va_find_37 post k6 p0 p1 p3 p4 p5 p6 f) : W p l e R s m args below meth c H locs 0 0 (MQ below (va_Qi post (xAt G f0 sz) (xA f0 sz)) args s 0 0 (xA f0 sz)) (F0 m 37 ls []) := by
  have hx := hX.1
  have hb := hX.2.1
  refine lv_iload hx hb d_Va_find_37 (lv_at hl 5 rfl) ?_
  refine lv_bipush (v := 34) hx hb d_Va_find_39 (by decide) ?_
  refine lv_icmp_ne (tgt := 59) hx hb d_Va_find_41 (by decide) (fun qc => ?_) (fun qc => ?_)
  · replace h := h.1 qc
    refine lv_iload hx hb d_Va_find_59 (lv_at hl 5 rfl) ?_
    refine lv_bipush (v := 92) hx hb d_Va_find_61 (by decide) ?_
    refine lv_icmp_ne (tgt := 74) hx hb d_Va_find_63 (by decide) (fun qc => ?_) (fun qc => ?_)
    · replace h := h.1 qc
      exact s_Va_find_74 hin hX hk6 (lv_sub hl [0, 1, 2, 3, 4] rfl) hW h
    · replace h := h.2 qc
      refine lv_iload hx hb d_Va_find_66 (lv_at hl 3 rfl) ?_
      refine lv_if_eq (tgt := 74) hx hb d_Va_find_68 (by decide) (fun qc => ?_) (fun qc => ?_)
      · replace h := h.1 qc
        exact s_Va_find_74 hin hX hk6 (lv_sub hl [0, 1, 2, 3, 4] rfl) hW h
      · replace h := h.2 qc
        refine lv_iinc (v := p5 + 1) (lv' := [(5, .int (p5 + 1)), (0, .ref p0), (1, .int p1), (3, .int p3), (4, .int p4), (6, .int p6)]) hx hb d_Va_find_71 hl (k := 4) rfl rfl (by decide) rfl (fun ls hl => ?_)
        exact s_Va_find_74 hin hX hk6 (lv_sub hl [1, 2, 3, 4, 0] rfl) hW h
  · replace h := h.2 qc
    refine lv_iload hx hb d_Va_find_44 (lv_at hl 3 rfl) ?_
    refine lv_if_ne (tgt := 53) hx hb d_Va_find_46 (by decide) (fun qc => ?_) (fun qc => ?_)
    · replace h := h.1 qc
      refine lv_iconst (v := 0) hx hb d_Va_find_53 (by decide) ?_
      exact s_Va_find_54 hin hX hk6 (lv_sub hl [0, 1, 2, 4] rfl) hW h
    · replace h := h.2 qc
      refine lv_iconst (v := 1) hx hb d_Va_find_49 (by decide) ?_
      refine lv_goto (tgt := 54) hx hb d_Va_find_50 (by decide) ?_
      exact s_Va_find_54 hin hX hk6 (lv_sub hl [0, 1, 2, 4] rfl) hW h
def w_Va_find_6 (post : Int32 → xhp → Prop) : Nat → Nat → Int32 → Int32 → Int32 → Int32 → xhp → Prop
  | 0, _, _, _, _, _, _ => False
  | n + 1, p0, p1, p3, p4, p5, f =>
    ((p3 ≤ p5 →
      post p3 f) ∧
    (¬ p3 ≤ p5 →
      ∃ a1 : Nat, xV f p0 3 0 (.ref a1) ∧
      xO f a1 2 ∧
      w_Ro_get (fun r3 f2 =>
        ((¬ r3 = p1 →
          w_Va_find_37 post (w_Va_find_6 post n) p0 p1 p3 p4 p5 r3 f2) ∧
        (r3 = p1 →
          ((¬ p4 = 0 →
            w_Va_find_37 post (w_Va_find_6 post n) p0 p1 p3 p4 p5 r3 f2) ∧
          (p4 = 0 →
            post p5 f2))))) a1 p5 f))
set_option maxHeartbeats 4000000 in
set_option maxRecDepth 100000 in
theorem s_Va_find_6 {post : Int32 → xhp → Prop} (hin : meth.name = "find") (hX : xX p R s m args meth c G (xA f0 sz) b_Va_find 7 "MailParts$Value" (some .int) 1 0 0) : ∀ (n : Nat) {p0 : Nat} {p1 : Int32} {p3 : Int32} {p4 : Int32} {p5 : Int32} {f : xhp} {H : Heap} {locs : List Loc} {ls : Array Slot}, lv_has ls 7 [(0, .ref p0), (1, .int p1), (3, .int p3), (4, .int p4), (5, .int p5)] → xW G (xA f0 sz) s f H locs → w_Va_find_6 post n p0 p1 p3 p4 p5 f → W p l e R s m args below meth c H locs 0 0 (MQ below (va_Qi post (xAt G f0 sz) (xA f0 sz)) args s 0 0 (xA f0 sz)) (F0 m 6 ls []) := by
  have hx := hX.1
  have hb := hX.2.1
  intro n
  induction n with
  | zero => intro p0 p1 p3 p4 p5 f H locs ls hl hW h; exact h.elim
  | succ n ih =>
    intro p0 p1 p3 p4 p5 f H locs ls hl hW h
    refine lv_iload hx hb d_Va_find_6 (lv_at hl 4 rfl) ?_
    refine lv_iload_n hx hb d_Va_find_8 rfl (lv_at hl 2 rfl) ?_
    refine lv_icmp_ge (tgt := 80) hx hb d_Va_find_9 (by decide) (fun qc => ?_) (fun qc => ?_)
    · replace h := h.1 qc
      refine lv_iload_n hx hb d_Va_find_80 rfl (lv_at hl 2 rfl) ?_
      exact x_iret hX hW h d_Va_find_81
    · replace h := h.2 qc
      refine lv_aload_n hx hb d_Va_find_12 rfl (lv_at hl 0 rfl) ?_
      obtain ⟨a1, hv, h⟩ := h
      refine x_get hX hW hv i_Va rfl (by decide) kw_71 rfl d_Va_find_13 ?_
      refine lv_iload hx hb d_Va_find_16 (lv_at hl 4 rfl) ?_
      obtain ⟨ho, h⟩ := h
      refine x_calli hX hW (x_runV (rest := []) hX hW (c_Ro_get h _) ho rfl kw_367 kw_271 kw_272 kw_2 kw_273 yk_Ro_get (by decide) (by decide) rfl hl.1 rfl (Nat.le_of_ble_eq_true rfl) d_Va_find_18 ⟨Nat.zero_le _, Nat.zero_le _⟩) (fun r3 f2 H locs h hW => ?_)
      refine lv_istore (i := 6) (lv' := [(6, .int r3), (0, .ref p0), (1, .int p1), (3, .int p3), (4, .int p4), (5, .int p5)]) hx hb d_Va_find_21 hl (by decide) rfl (fun ls hl => ?_)
      refine lv_iload hx hb d_Va_find_23 (lv_at hl 0 rfl) ?_
      refine lv_iload_n hx hb d_Va_find_25 rfl (lv_at hl 2 rfl) ?_
      refine lv_icmp_ne (tgt := 37) hx hb d_Va_find_26 (by decide) (fun qc => ?_) (fun qc => ?_)
      · replace h := h.1 qc
        exact s_Va_find_37 hin hX ih (lv_sub hl [1, 2, 3, 4, 5, 0] rfl) hW h
      · replace h := h.2 qc
        refine lv_iload hx hb d_Va_find_29 (lv_at hl 4 rfl) ?_
        refine lv_if_ne (tgt := 37) hx hb d_Va_find_31 (by decide) (fun qc => ?_) (fun qc => ?_)
        · replace h := h.1 qc
          exact s_Va_find_37 hin hX ih (lv_sub hl [1, 2, 3, 4, 5, 0] rfl) hW h
        · replace h := h.2 qc
          refine lv_iload hx hb d_Va_find_34 (lv_at hl 5 rfl) ?_
          exact x_iret hX hW h d_Va_find_36
def w_Va_find (post : Int32 → xhp → Prop) (p0 : Nat) (p1 : Int32) (p2 : Int32) (p3 : Int32) (f : xhp) : Prop :=
  ∃ u6 : Nat, w_Va_find_6 post u6 p0 p1 p3 0 p2 f
set_option maxHeartbeats 4000000 in
set_option maxRecDepth 100000 in
theorem c_Va_find {l : Launch} {G : xG} {post : Int32 → xhp → Prop} {p0 : Nat} {p1 : Int32} {p2 : Int32} {p3 : Int32} {f : xhp} (h : w_Va_find post p0 p1 p2 p3 f) : xMi l G y_Va_find b_Va_find 7 (some .int) 1 0 0 [.ref p0, .int p1, .int p2, .int p3] f post := by
  refine x_met (by decide) (Nat.le_of_ble_eq_true rfl) ?_
  intro sz p e s m below meth c ls hin hX hl hW
  have hl : lv_has ls 7 [(0, .ref p0), (1, .int p1), (2, .int p2), (3, .int p3)] := hl
  have hx := hX.1
  have hb := hX.2.1
  refine lv_iconst (v := 0) hx hb d_Va_find_0 (by decide) ?_
  refine lv_istore (i := 4) (lv' := [(4, .int 0), (0, .ref p0), (1, .int p1), (2, .int p2), (3, .int p3)]) hx hb d_Va_find_1 hl (by decide) rfl (fun ls hl => ?_)
  refine lv_iload_n hx hb d_Va_find_3 rfl (lv_at hl 3 rfl) ?_
  refine lv_istore (i := 5) (lv' := [(5, .int p2), (4, .int 0), (0, .ref p0), (1, .int p1), (2, .int p2), (3, .int p3)]) hx hb d_Va_find_4 hl (by decide) rfl (fun ls hl => ?_)
  obtain ⟨u6, h⟩ := h
  exact s_Va_find_6 hin hX u6 (lv_sub hl [2, 3, 5, 1, 0] rfl) hW h
/-! MailParts$Value.isType()Z -/
def w_Va_isType_65 (post : Int32 → xhp → Prop) (k4 : Nat → Int32 → Int32 → xhp → Prop) (p0 : Nat) (p2 : Int32) (s0 : Int32) (f : xhp) : Prop :=
  k4 p0 s0 (p2 + 1) f
set_option maxHeartbeats 4000000 in
set_option maxRecDepth 100000 in
theorem s_Va_isType_65 {post : Int32 → xhp → Prop} {k4 : Nat → Int32 → Int32 → xhp → Prop} (hin : meth.name = "isType") (hX : xX p R s m args meth c G (xA f0 sz) b_Va_isType 4 "MailParts$Value" (some .boolean) 1 0 0) (hk4 : ∀ {p0 : Nat} {p1 : Int32} {p2 : Int32} {f : xhp} {H : Heap} {locs : List Loc} {ls : Array Slot}, lv_has ls 4 [(0, .ref p0), (1, .int p1), (2, .int p2)] → xW G (xA f0 sz) s f H locs → k4 p0 p1 p2 f → W p l e R s m args below meth c H locs 0 0 (MQ below (va_Qi post (xAt G f0 sz) (xA f0 sz)) args s 0 0 (xA f0 sz)) (F0 m 4 ls [])) {p0 : Nat} {p2 : Int32} {s0 : Int32} {f : xhp} {H : Heap} {locs : List Loc} {ls : Array Slot} (hl : lv_has ls 4 [(0, .ref p0), (2, .int p2)]) (hW : xW G (xA f0 sz) s f H locs) (h : w_Va_isType_65 post k4 p0 p2 s0 f) : W p l e R s m args below meth c H locs 0 0 (MQ below (va_Qi post (xAt G f0 sz) (xA f0 sz)) args s 0 0 (xA f0 sz)) (F0 m 65 ls [.int s0]) := by
  have hx := hX.1
  have hb := hX.2.1
  refine lv_istore_n (i := 1) (lv' := [(1, .int s0), (0, .ref p0), (2, .int p2)]) hx hb d_Va_isType_65 rfl hl (by decide) rfl (fun ls hl => ?_)
  refine lv_iinc (v := p2 + 1) (lv' := [(2, .int (p2 + 1)), (1, .int s0), (0, .ref p0)]) hx hb d_Va_isType_66 hl (k := 2) rfl rfl (by decide) rfl (fun ls hl => ?_)
  refine lv_goto (tgt := 4) hx hb d_Va_isType_69 (by decide) ?_
  exact hk4 (lv_sub hl [2, 1, 0] rfl) hW h
def w_Va_isType_64 (post : Int32 → xhp → Prop) (k4 : Nat → Int32 → Int32 → xhp → Prop) (p0 : Nat) (p2 : Int32) (f : xhp) : Prop :=
  w_Va_isType_65 post k4 p0 p2 0 f
set_option maxHeartbeats 4000000 in
set_option maxRecDepth 100000 in
theorem s_Va_isType_64 {post : Int32 → xhp → Prop} {k4 : Nat → Int32 → Int32 → xhp → Prop} (hin : meth.name = "isType") (hX : xX p R s m args meth c G (xA f0 sz) b_Va_isType 4 "MailParts$Value" (some .boolean) 1 0 0) (hk4 : ∀ {p0 : Nat} {p1 : Int32} {p2 : Int32} {f : xhp} {H : Heap} {locs : List Loc} {ls : Array Slot}, lv_has ls 4 [(0, .ref p0), (1, .int p1), (2, .int p2)] → xW G (xA f0 sz) s f H locs → k4 p0 p1 p2 f → W p l e R s m args below meth c H locs 0 0 (MQ below (va_Qi post (xAt G f0 sz) (xA f0 sz)) args s 0 0 (xA f0 sz)) (F0 m 4 ls [])) {p0 : Nat} {p2 : Int32} {f : xhp} {H : Heap} {locs : List Loc} {ls : Array Slot} (hl : lv_has ls 4 [(0, .ref p0), (2, .int p2)]) (hW : xW G (xA f0 sz) s f H locs) (h : w_Va_isType_64 post k4 p0 p2 f) : W p l e R s m args below meth c H locs 0 0 (MQ below (va_Qi post (xAt G f0 sz) (xA f0 sz)) args s 0 0 (xA f0 sz)) (F0 m 64 ls []) := by
  have hx := hX.1
  have hb := hX.2.1
  refine lv_iconst (v := 0) hx hb d_Va_isType_64 (by decide) ?_
  exact s_Va_isType_65 hin hX hk4 (lv_sub hl [0, 1] rfl) hW h
def w_Va_isType_60 (post : Int32 → xhp → Prop) (k4 : Nat → Int32 → Int32 → xhp → Prop) (p0 : Nat) (p2 : Int32) (f : xhp) : Prop :=
  w_Va_isType_65 post k4 p0 p2 1 f
set_option maxHeartbeats 4000000 in
set_option maxRecDepth 100000 in
theorem s_Va_isType_60 {post : Int32 → xhp → Prop} {k4 : Nat → Int32 → Int32 → xhp → Prop} (hin : meth.name = "isType") (hX : xX p R s m args meth c G (xA f0 sz) b_Va_isType 4 "MailParts$Value" (some .boolean) 1 0 0) (hk4 : ∀ {p0 : Nat} {p1 : Int32} {p2 : Int32} {f : xhp} {H : Heap} {locs : List Loc} {ls : Array Slot}, lv_has ls 4 [(0, .ref p0), (1, .int p1), (2, .int p2)] → xW G (xA f0 sz) s f H locs → k4 p0 p1 p2 f → W p l e R s m args below meth c H locs 0 0 (MQ below (va_Qi post (xAt G f0 sz) (xA f0 sz)) args s 0 0 (xA f0 sz)) (F0 m 4 ls [])) {p0 : Nat} {p2 : Int32} {f : xhp} {H : Heap} {locs : List Loc} {ls : Array Slot} (hl : lv_has ls 4 [(0, .ref p0), (2, .int p2)]) (hW : xW G (xA f0 sz) s f H locs) (h : w_Va_isType_60 post k4 p0 p2 f) : W p l e R s m args below meth c H locs 0 0 (MQ below (va_Qi post (xAt G f0 sz) (xA f0 sz)) args s 0 0 (xA f0 sz)) (F0 m 60 ls []) := by
  have hx := hX.1
  have hb := hX.2.1
  refine lv_iconst (v := 1) hx hb d_Va_isType_60 (by decide) ?_
  refine lv_goto (tgt := 65) hx hb d_Va_isType_61 (by decide) ?_
  exact s_Va_isType_65 hin hX hk4 (lv_sub hl [0, 1] rfl) hW h
def w_Va_isType_4 (post : Int32 → xhp → Prop) : Nat → Nat → Int32 → Int32 → xhp → Prop
  | 0, _, _, _, _ => False
  | n + 1, p0, p1, p2, f =>
    ∃ a1 : Nat, xV f p0 3 0 (.ref a1) ∧
    ∃ v2 : Int32, xV f a1 2 1 (.int v2) ∧
    ((v2 ≤ p2 →
      xz p1 ∧ post p1 f) ∧
    (¬ v2 ≤ p2 →
      ∃ a3 : Nat, xV f p0 3 0 (.ref a3) ∧
      xO f a3 2 ∧
      w_Ro_get (fun r5 f4 =>
        w_Mp_isBlank (fun r7 f6 =>
          ((r7 = 0 →
            ((¬ p1 = 0 →
              w_Va_isType_60 post (w_Va_isType_4 post n) p0 p2 f6) ∧
            (p1 = 0 →
              ((¬ r5 = 47 →
                w_Va_isType_64 post (w_Va_isType_4 post n) p0 p2 f6) ∧
              (r5 = 47 →
                ((p2 ≤ 0 →
                  w_Va_isType_64 post (w_Va_isType_4 post n) p0 p2 f6) ∧
                (¬ p2 ≤ 0 →
                  ∃ a8 : Nat, xV f6 p0 3 0 (.ref a8) ∧
                  ∃ v9 : Int32, xV f6 a8 2 1 (.int v9) ∧
                  (((v9 - 1) ≤ p2 →
                    w_Va_isType_64 post (w_Va_isType_4 post n) p0 p2 f6) ∧
                  (¬ (v9 - 1) ≤ p2 →
                    w_Va_isType_60 post (w_Va_isType_4 post n) p0 p2 f6))))))))) ∧
          (¬ r7 = 0 →
            xz 0 ∧ post 0 f6))) r5 f4) a3 p2 f))
set_option maxHeartbeats 4000000 in
set_option maxRecDepth 100000 in
theorem s_Va_isType_4 {post : Int32 → xhp → Prop} (hin : meth.name = "isType") (hX : xX p R s m args meth c G (xA f0 sz) b_Va_isType 4 "MailParts$Value" (some .boolean) 1 0 0) : ∀ (n : Nat) {p0 : Nat} {p1 : Int32} {p2 : Int32} {f : xhp} {H : Heap} {locs : List Loc} {ls : Array Slot}, lv_has ls 4 [(0, .ref p0), (1, .int p1), (2, .int p2)] → xW G (xA f0 sz) s f H locs → w_Va_isType_4 post n p0 p1 p2 f → W p l e R s m args below meth c H locs 0 0 (MQ below (va_Qi post (xAt G f0 sz) (xA f0 sz)) args s 0 0 (xA f0 sz)) (F0 m 4 ls []) := by
  have hx := hX.1
  have hb := hX.2.1
  intro n
  induction n with
  | zero => intro p0 p1 p2 f H locs ls hl hW h; exact h.elim
  | succ n ih =>
    intro p0 p1 p2 f H locs ls hl hW h
    refine lv_iload_n hx hb d_Va_isType_4 rfl (lv_at hl 2 rfl) ?_
    refine lv_aload_n hx hb d_Va_isType_5 rfl (lv_at hl 0 rfl) ?_
    obtain ⟨a1, hv, h⟩ := h
    refine x_get hX hW hv i_Va rfl (by decide) kw_71 rfl d_Va_isType_6 ?_
    obtain ⟨v2, hv, h⟩ := h
    refine x_getN hX hW hv i_Ro rfl (by decide) kw_31 rfl d_Va_isType_9 ?_
    refine lv_icmp_ge (tgt := 72) hx hb d_Va_isType_12 (by decide) (fun qc => ?_) (fun qc => ?_)
    · replace h := h.1 qc
      refine lv_iload_n hx hb d_Va_isType_72 rfl (lv_at hl 1 rfl) ?_
      exact x_zret hX hW h.1 h.2 d_Va_isType_73
    · replace h := h.2 qc
      refine lv_aload_n hx hb d_Va_isType_15 rfl (lv_at hl 0 rfl) ?_
      obtain ⟨a3, hv, h⟩ := h
      refine x_get hX hW hv i_Va rfl (by decide) kw_71 rfl d_Va_isType_16 ?_
      refine lv_iload_n hx hb d_Va_isType_19 rfl (lv_at hl 2 rfl) ?_
      obtain ⟨ho, h⟩ := h
      refine x_calli hX hW (x_runV (rest := []) hX hW (c_Ro_get h _) ho rfl kw_367 kw_271 kw_272 kw_2 kw_273 yk_Ro_get (by decide) (by decide) rfl hl.1 rfl (Nat.le_of_ble_eq_true rfl) d_Va_isType_20 ⟨Nat.zero_le _, Nat.zero_le _⟩) (fun r5 f4 H locs h hW => ?_)
      refine lv_istore_n (i := 3) (lv' := [(3, .int r5), (0, .ref p0), (1, .int p1), (2, .int p2)]) hx hb d_Va_isType_23 rfl hl (by decide) rfl (fun ls hl => ?_)
      refine lv_iload_n hx hb d_Va_isType_24 rfl (lv_at hl 0 rfl) ?_
      refine x_calli hX hW (x_runSN (rest := []) hX hW (c_Mp_isBlank h _) kw_376 kw_311 kw_1 kw_312 yk_Mp_isBlank (by decide) (by decide) rfl hl.1 rfl (Nat.le_of_ble_eq_true rfl) d_Va_isType_25 ⟨Nat.zero_le _, Nat.zero_le _⟩) (fun r7 f6 H locs h hW => ?_)
      refine lv_if_eq (tgt := 33) hx hb d_Va_isType_28 (by decide) (fun qc => ?_) (fun qc => ?_)
      · replace h := h.1 qc
        refine lv_iload_n hx hb d_Va_isType_33 rfl (lv_at hl 2 rfl) ?_
        refine lv_if_ne (tgt := 60) hx hb d_Va_isType_34 (by decide) (fun qc => ?_) (fun qc => ?_)
        · replace h := h.1 qc
          exact s_Va_isType_60 hin hX ih (lv_sub hl [1, 3] rfl) hW h
        · replace h := h.2 qc
          refine lv_iload_n hx hb d_Va_isType_37 rfl (lv_at hl 0 rfl) ?_
          refine lv_bipush (v := 47) hx hb d_Va_isType_38 (by decide) ?_
          refine lv_icmp_ne (tgt := 64) hx hb d_Va_isType_40 (by decide) (fun qc => ?_) (fun qc => ?_)
          · replace h := h.1 qc
            exact s_Va_isType_64 hin hX ih (lv_sub hl [1, 3] rfl) hW h
          · replace h := h.2 qc
            refine lv_iload_n hx hb d_Va_isType_43 rfl (lv_at hl 3 rfl) ?_
            refine lv_if_le (tgt := 64) hx hb d_Va_isType_44 (by decide) (fun qc => ?_) (fun qc => ?_)
            · replace h := h.1 qc
              exact s_Va_isType_64 hin hX ih (lv_sub hl [1, 3] rfl) hW h
            · replace h := h.2 qc
              refine lv_iload_n hx hb d_Va_isType_47 rfl (lv_at hl 3 rfl) ?_
              refine lv_aload_n hx hb d_Va_isType_48 rfl (lv_at hl 1 rfl) ?_
              obtain ⟨a8, hv, h⟩ := h
              refine x_get hX hW hv i_Va rfl (by decide) kw_71 rfl d_Va_isType_49 ?_
              obtain ⟨v9, hv, h⟩ := h
              refine x_getN hX hW hv i_Ro rfl (by decide) kw_31 rfl d_Va_isType_52 ?_
              refine lv_iconst (v := 1) hx hb d_Va_isType_55 (by decide) ?_
              refine lv_isub hx hb d_Va_isType_56 ?_
              refine lv_icmp_ge (tgt := 64) hx hb d_Va_isType_57 (by decide) (fun qc => ?_) (fun qc => ?_)
              · replace h := h.1 qc
                exact s_Va_isType_64 hin hX ih (lv_sub hl [1, 3] rfl) hW h
              · replace h := h.2 qc
                exact s_Va_isType_60 hin hX ih (lv_sub hl [1, 3] rfl) hW h
      · replace h := h.2 qc
        refine lv_iconst (v := 0) hx hb d_Va_isType_31 (by decide) ?_
        exact x_zret hX hW h.1 h.2 d_Va_isType_32
def w_Va_isType (post : Int32 → xhp → Prop) (p0 : Nat) (f : xhp) : Prop :=
  ∃ u4 : Nat, w_Va_isType_4 post u4 p0 0 0 f
set_option maxHeartbeats 4000000 in
set_option maxRecDepth 100000 in
theorem c_Va_isType {l : Launch} {G : xG} {post : Int32 → xhp → Prop} {p0 : Nat} {f : xhp} (h : w_Va_isType post p0 f) : xMi l G y_Va_isType b_Va_isType 4 (some .boolean) 1 0 0 [.ref p0] f post := by
  refine x_met (by decide) (Nat.le_of_ble_eq_true rfl) ?_
  intro sz p e s m below meth c ls hin hX hl hW
  have hl : lv_has ls 4 [(0, .ref p0)] := hl
  have hx := hX.1
  have hb := hX.2.1
  refine lv_iconst (v := 0) hx hb d_Va_isType_0 (by decide) ?_
  refine lv_istore_n (i := 1) (lv' := [(1, .int 0), (0, .ref p0)]) hx hb d_Va_isType_1 rfl hl (by decide) rfl (fun ls hl => ?_)
  refine lv_iconst (v := 0) hx hb d_Va_isType_2 (by decide) ?_
  refine lv_istore_n (i := 2) (lv' := [(2, .int 0), (1, .int 0), (0, .ref p0)]) hx hb d_Va_isType_3 rfl hl (by decide) rfl (fun ls hl => ?_)
  obtain ⟨u4, h⟩ := h
  exact s_Va_isType_4 hin hX u4 (lv_sub hl [2, 1, 0] rfl) hW h
/-! MailParts$Value.isNamed(IILMailParts$Row;)Z -/
def w_Va_isNamed_43 (post : Int32 → xhp → Prop) (s0 : Int32) (f : xhp) : Prop :=
  xz s0 ∧ post s0 f
set_option maxHeartbeats 4000000 in
set_option maxRecDepth 100000 in
theorem s_Va_isNamed_43 {post : Int32 → xhp → Prop} (hin : meth.name = "isNamed") (hX : xX p R s m args meth c G (xA f0 sz) b_Va_isNamed 5 "MailParts$Value" (some .boolean) 2 0 0) {s0 : Int32} {f : xhp} {H : Heap} {locs : List Loc} {ls : Array Slot} (hl : lv_has ls 5 []) (hW : xW G (xA f0 sz) s f H locs) (h : w_Va_isNamed_43 post s0 f) : W p l e R s m args below meth c H locs 0 0 (MQ below (va_Qi post (xAt G f0 sz) (xA f0 sz)) args s 0 0 (xA f0 sz)) (F0 m 43 ls [.int s0]) := by
  have hx := hX.1
  have hb := hX.2.1
  exact x_zret hX hW h.1 h.2 d_Va_isNamed_43
def w_Va_isNamed_42 (post : Int32 → xhp → Prop) (f : xhp) : Prop :=
  w_Va_isNamed_43 post 0 f
set_option maxHeartbeats 4000000 in
set_option maxRecDepth 100000 in
theorem s_Va_isNamed_42 {post : Int32 → xhp → Prop} (hin : meth.name = "isNamed") (hX : xX p R s m args meth c G (xA f0 sz) b_Va_isNamed 5 "MailParts$Value" (some .boolean) 2 0 0)  {f : xhp} {H : Heap} {locs : List Loc} {ls : Array Slot} (hl : lv_has ls 5 []) (hW : xW G (xA f0 sz) s f H locs) (h : w_Va_isNamed_42 post  f) : W p l e R s m args below meth c H locs 0 0 (MQ below (va_Qi post (xAt G f0 sz) (xA f0 sz)) args s 0 0 (xA f0 sz)) (F0 m 42 ls []) := by
  have hx := hX.1
  have hb := hX.2.1
  refine lv_iconst (v := 0) hx hb d_Va_isNamed_42 (by decide) ?_
  exact s_Va_isNamed_43 hin hX (lv_sub hl [] rfl) hW h
def w_Va_isNamed (post : Int32 → xhp → Prop) (p0 : Nat) (p1 : Int32) (p2 : Int32) (p3 : Nat) (f : xhp) : Prop :=
  xO f p0 3 ∧
  w_Va_behindBlanks (fun r2 f1 =>
    xO f1 p0 3 ∧
    w_Va_aheadOfBlanks (fun r4 f3 =>
      ∃ v5 : Int32, xV f3 p3 2 1 (.int v5) ∧
      ((¬ (r4 - r2) = v5 →
        w_Va_isNamed_42 post f3) ∧
      ((r4 - r2) = v5 →
        ∃ a6 : Nat, xV f3 p0 3 0 (.ref a6) ∧
        xO f3 a6 2 ∧
        w_Ro_hasName (fun r8 f7 =>
          ((r8 = 0 →
            w_Va_isNamed_42 post f7) ∧
          (¬ r8 = 0 →
            w_Va_isNamed_43 post 1 f7))) a6 r2 p3 f3))) p0 r2 p2 f1) p0 p1 p2 f
set_option maxHeartbeats 4000000 in
set_option maxRecDepth 100000 in
theorem c_Va_isNamed {l : Launch} {G : xG} {post : Int32 → xhp → Prop} {p0 : Nat} {p1 : Int32} {p2 : Int32} {p3 : Nat} {f : xhp} (h : w_Va_isNamed post p0 p1 p2 p3 f) : xMi l G y_Va_isNamed b_Va_isNamed 5 (some .boolean) 2 0 0 [.ref p0, .int p1, .int p2, .ref p3] f post := by
  refine x_met (by decide) (Nat.le_of_ble_eq_true rfl) ?_
  intro sz p e s m below meth c ls hin hX hl hW
  have hl : lv_has ls 5 [(0, .ref p0), (1, .int p1), (2, .int p2), (3, .ref p3)] := hl
  have hx := hX.1
  have hb := hX.2.1
  refine lv_aload_n hx hb d_Va_isNamed_0 rfl (lv_at hl 0 rfl) ?_
  refine lv_iload_n hx hb d_Va_isNamed_1 rfl (lv_at hl 1 rfl) ?_
  refine lv_iload_n hx hb d_Va_isNamed_2 rfl (lv_at hl 2 rfl) ?_
  obtain ⟨ho, h⟩ := h
  refine x_calli hX hW (x_runV (rest := []) hX hW (c_Va_behindBlanks h _) ho rfl kw_372 kw_374 ks_9 kw_5 kw_375 yk_Va_behindBlanks (by decide) (by decide) rfl hl.1 rfl (Nat.le_of_ble_eq_true rfl) d_Va_isNamed_3 ⟨Nat.zero_le _, Nat.zero_le _⟩) (fun r2 f1 H locs h hW => ?_)
  refine lv_istore (i := 4) (lv' := [(4, .int r2), (0, .ref p0), (1, .int p1), (2, .int p2), (3, .ref p3)]) hx hb d_Va_isNamed_6 hl (by decide) rfl (fun ls hl => ?_)
  refine lv_aload_n hx hb d_Va_isNamed_8 rfl (lv_at hl 1 rfl) ?_
  refine lv_iload hx hb d_Va_isNamed_9 (lv_at hl 0 rfl) ?_
  refine lv_iload_n hx hb d_Va_isNamed_11 rfl (lv_at hl 3 rfl) ?_
  obtain ⟨ho, h⟩ := h
  refine x_calli hX hW (x_runV (rest := []) hX hW (c_Va_aheadOfBlanks h _) ho rfl kw_377 kw_379 ks_10 kw_5 kw_380 yk_Va_aheadOfBlanks (by decide) (by decide) rfl hl.1 rfl (Nat.le_of_ble_eq_true rfl) d_Va_isNamed_12 ⟨Nat.zero_le _, Nat.zero_le _⟩) (fun r4 f3 H locs h hW => ?_)
  refine lv_iload hx hb d_Va_isNamed_15 (lv_at hl 0 rfl) ?_
  refine lv_isub hx hb d_Va_isNamed_17 ?_
  refine lv_aload_n hx hb d_Va_isNamed_18 rfl (lv_at hl 4 rfl) ?_
  obtain ⟨v5, hv, h⟩ := h
  refine x_getN hX hW hv i_Ro rfl (by decide) kw_31 rfl d_Va_isNamed_19 ?_
  refine lv_icmp_ne (tgt := 42) hx hb d_Va_isNamed_22 (by decide) (fun qc => ?_) (fun qc => ?_)
  · replace h := h.1 qc
    exact s_Va_isNamed_42 hin hX (lv_sub hl [] rfl) hW h
  · replace h := h.2 qc
    refine lv_aload_n hx hb d_Va_isNamed_25 rfl (lv_at hl 1 rfl) ?_
    obtain ⟨a6, hv, h⟩ := h
    refine x_get hX hW hv i_Va rfl (by decide) kw_71 rfl d_Va_isNamed_26 ?_
    refine lv_iload hx hb d_Va_isNamed_29 (lv_at hl 0 rfl) ?_
    refine lv_aload_n hx hb d_Va_isNamed_31 rfl (lv_at hl 4 rfl) ?_
    obtain ⟨ho, h⟩ := h
    refine x_calli hX hW (x_runV (rest := []) hX hW (c_Ro_hasName h _) ho rfl kw_426 kw_349 kw_350 kw_2 kw_351 yk_Ro_hasName (by decide) (by decide) rfl hl.1 rfl (Nat.le_of_ble_eq_true rfl) d_Va_isNamed_32 ⟨Nat.zero_le _, Nat.zero_le _⟩) (fun r8 f7 H locs h hW => ?_)
    refine lv_if_eq (tgt := 42) hx hb d_Va_isNamed_35 (by decide) (fun qc => ?_) (fun qc => ?_)
    · replace h := h.1 qc
      exact s_Va_isNamed_42 hin hX (lv_sub hl [] rfl) hW h
    · replace h := h.2 qc
      refine lv_iconst (v := 1) hx hb d_Va_isNamed_38 (by decide) ?_
      refine lv_goto (tgt := 43) hx hb d_Va_isNamed_39 (by decide) ?_
      exact s_Va_isNamed_43 hin hX (lv_sub hl [] rfl) hW h
/-! MailParts$Value.keep(II)V -/
def w_Va_keep_18 (post : xhp → Prop) : Nat → Nat → Int32 → Int32 → Int32 → xhp → Prop
  | 0, _, _, _, _, _ => False
  | n + 1, p0, p3, p4, p5, f =>
    ((p4 ≤ p5 →
      ∃ a1 : Nat, xV f p0 3 0 (.ref a1) ∧
      xO f a1 2 ∧
      w_Ro_shorten (fun f2 =>
        post f2) a1 (p4 - p3) f) ∧
    (¬ p4 ≤ p5 →
      ∃ a3 : Nat, xV f p0 3 0 (.ref a3) ∧
      ∃ a4 : Nat, xV f p0 3 0 (.ref a4) ∧
      xO f a4 2 ∧
      w_Ro_get (fun r6 f5 =>
        xO f5 a3 2 ∧
        w_Ro_set (fun f7 =>
          w_Va_keep_18 post n p0 p3 p4 (p5 + 1) f7) a3 (p5 - p3) r6 f5) a4 p5 f))
set_option maxHeartbeats 4000000 in
set_option maxRecDepth 100000 in
theorem s_Va_keep_18 {post : xhp → Prop} (hin : meth.name = "keep") (hX : xX p R s m args meth c G (xA f0 sz) b_Va_keep 6 "MailParts$Value" none 2 0 0) : ∀ (n : Nat) {p0 : Nat} {p3 : Int32} {p4 : Int32} {p5 : Int32} {f : xhp} {H : Heap} {locs : List Loc} {ls : Array Slot}, lv_has ls 6 [(0, .ref p0), (3, .int p3), (4, .int p4), (5, .int p5)] → xW G (xA f0 sz) s f H locs → w_Va_keep_18 post n p0 p3 p4 p5 f → W p l e R s m args below meth c H locs 0 0 (MQ below (va_Qv post (xAt G f0 sz) (xA f0 sz)) args s 0 0 (xA f0 sz)) (F0 m 18 ls []) := by
  have hx := hX.1
  have hb := hX.2.1
  intro n
  induction n with
  | zero => intro p0 p3 p4 p5 f H locs ls hl hW h; exact h.elim
  | succ n ih =>
    intro p0 p3 p4 p5 f H locs ls hl hW h
    refine lv_iload hx hb d_Va_keep_18 (lv_at hl 3 rfl) ?_
    refine lv_iload hx hb d_Va_keep_20 (lv_at hl 2 rfl) ?_
    refine lv_icmp_ge (tgt := 51) hx hb d_Va_keep_22 (by decide) (fun qc => ?_) (fun qc => ?_)
    · replace h := h.1 qc
      refine lv_aload_n hx hb d_Va_keep_51 rfl (lv_at hl 0 rfl) ?_
      obtain ⟨a1, hv, h⟩ := h
      refine x_get hX hW hv i_Va rfl (by decide) kw_71 rfl d_Va_keep_52 ?_
      refine lv_iload hx hb d_Va_keep_55 (lv_at hl 2 rfl) ?_
      refine lv_iload_n hx hb d_Va_keep_57 rfl (lv_at hl 1 rfl) ?_
      refine lv_isub hx hb d_Va_keep_58 ?_
      obtain ⟨ho, h⟩ := h
      refine x_callv hX hW (x_runV (rest := []) hX hW (c_Ro_shorten h _) ho rfl kw_385 kw_386 kw_387 kw_2 kw_388 yk_Ro_shorten (by decide) (by decide) rfl hl.1 rfl (Nat.le_of_ble_eq_true rfl) d_Va_keep_59 ⟨Nat.zero_le _, Nat.zero_le _⟩) (fun f2 H locs h hW => ?_)
      exact x_vret hX hW h d_Va_keep_62
    · replace h := h.2 qc
      refine lv_aload_n hx hb d_Va_keep_25 rfl (lv_at hl 0 rfl) ?_
      obtain ⟨a3, hv, h⟩ := h
      refine x_get hX hW hv i_Va rfl (by decide) kw_71 rfl d_Va_keep_26 ?_
      refine lv_iload hx hb d_Va_keep_29 (lv_at hl 3 rfl) ?_
      refine lv_iload_n hx hb d_Va_keep_31 rfl (lv_at hl 1 rfl) ?_
      refine lv_isub hx hb d_Va_keep_32 ?_
      refine lv_aload_n hx hb d_Va_keep_33 rfl (lv_at hl 0 rfl) ?_
      obtain ⟨a4, hv, h⟩ := h
      refine x_get hX hW hv i_Va rfl (by decide) kw_71 rfl d_Va_keep_34 ?_
      refine lv_iload hx hb d_Va_keep_37 (lv_at hl 3 rfl) ?_
      obtain ⟨ho, h⟩ := h
      refine x_calli hX hW (x_runV (rest := [.int (p5 - p3), .ref a3]) hX hW (c_Ro_get h _) ho rfl kw_367 kw_271 kw_272 kw_2 kw_273 yk_Ro_get (by decide) (by decide) rfl hl.1 rfl (Nat.le_of_ble_eq_true rfl) d_Va_keep_39 ⟨Nat.zero_le _, Nat.zero_le _⟩) (fun r6 f5 H locs h hW => ?_)
      obtain ⟨ho, h⟩ := h
      refine x_callv hX hW (x_runV (rest := []) hX hW (c_Ro_set h _) ho rfl kw_381 kw_382 kw_383 kw_2 kw_384 yk_Ro_set (by decide) (by decide) rfl hl.1 rfl (Nat.le_of_ble_eq_true rfl) d_Va_keep_42 ⟨Nat.zero_le _, Nat.zero_le _⟩) (fun f7 H locs h hW => ?_)
      refine lv_iinc (v := p5 + 1) (lv' := [(5, .int (p5 + 1)), (0, .ref p0), (3, .int p3), (4, .int p4)]) hx hb d_Va_keep_45 hl (k := 3) rfl rfl (by decide) rfl (fun ls hl => ?_)
      refine lv_goto (tgt := 18) hx hb d_Va_keep_48 (by decide) ?_
      exact ih (lv_sub hl [1, 2, 3, 0] rfl) hW h
def w_Va_keep (post : xhp → Prop) (p0 : Nat) (p1 : Int32) (p2 : Int32) (f : xhp) : Prop :=
  xO f p0 3 ∧
  w_Va_behindBlanks (fun r2 f1 =>
    xO f1 p0 3 ∧
    w_Va_aheadOfBlanks (fun r4 f3 =>
      ∃ u18 : Nat, w_Va_keep_18 post u18 p0 r2 r4 r2 f3) p0 r2 p2 f1) p0 p1 p2 f
set_option maxHeartbeats 4000000 in
set_option maxRecDepth 100000 in
theorem c_Va_keep {l : Launch} {G : xG} {post : xhp → Prop} {p0 : Nat} {p1 : Int32} {p2 : Int32} {f : xhp} (h : w_Va_keep post p0 p1 p2 f) : xMv l G y_Va_keep b_Va_keep 6 none 2 0 0 [.ref p0, .int p1, .int p2] f post := by
  refine x_met (by decide) (Nat.le_of_ble_eq_true rfl) ?_
  intro sz p e s m below meth c ls hin hX hl hW
  have hl : lv_has ls 6 [(0, .ref p0), (1, .int p1), (2, .int p2)] := hl
  have hx := hX.1
  have hb := hX.2.1
  refine lv_aload_n hx hb d_Va_keep_0 rfl (lv_at hl 0 rfl) ?_
  refine lv_iload_n hx hb d_Va_keep_1 rfl (lv_at hl 1 rfl) ?_
  refine lv_iload_n hx hb d_Va_keep_2 rfl (lv_at hl 2 rfl) ?_
  obtain ⟨ho, h⟩ := h
  refine x_calli hX hW (x_runV (rest := []) hX hW (c_Va_behindBlanks h _) ho rfl kw_372 kw_374 ks_9 kw_5 kw_375 yk_Va_behindBlanks (by decide) (by decide) rfl hl.1 rfl (Nat.le_of_ble_eq_true rfl) d_Va_keep_3 ⟨Nat.zero_le _, Nat.zero_le _⟩) (fun r2 f1 H locs h hW => ?_)
  refine lv_istore_n (i := 3) (lv' := [(3, .int r2), (0, .ref p0), (1, .int p1), (2, .int p2)]) hx hb d_Va_keep_6 rfl hl (by decide) rfl (fun ls hl => ?_)
  refine lv_aload_n hx hb d_Va_keep_7 rfl (lv_at hl 1 rfl) ?_
  refine lv_iload_n hx hb d_Va_keep_8 rfl (lv_at hl 0 rfl) ?_
  refine lv_iload_n hx hb d_Va_keep_9 rfl (lv_at hl 3 rfl) ?_
  obtain ⟨ho, h⟩ := h
  refine x_calli hX hW (x_runV (rest := []) hX hW (c_Va_aheadOfBlanks h _) ho rfl kw_377 kw_379 ks_10 kw_5 kw_380 yk_Va_aheadOfBlanks (by decide) (by decide) rfl hl.1 rfl (Nat.le_of_ble_eq_true rfl) d_Va_keep_10 ⟨Nat.zero_le _, Nat.zero_le _⟩) (fun r4 f3 H locs h hW => ?_)
  refine lv_istore (i := 4) (lv' := [(4, .int r4), (3, .int r2), (0, .ref p0), (1, .int p1), (2, .int p2)]) hx hb d_Va_keep_13 hl (by decide) rfl (fun ls hl => ?_)
  refine lv_iload_n hx hb d_Va_keep_15 rfl (lv_at hl 1 rfl) ?_
  refine lv_istore (i := 5) (lv' := [(5, .int r2), (4, .int r4), (3, .int r2), (0, .ref p0), (1, .int p1), (2, .int p2)]) hx hb d_Va_keep_16 hl (by decide) rfl (fun ls hl => ?_)
  obtain ⟨u18, h⟩ := h
  exact s_Va_keep_18 hin hX u18 (lv_sub hl [3, 2, 1, 0] rfl) hW h
/-! MailParts$Value.unquote()V -/
def w_Va_unquote_53 (post : xhp → Prop) (k32 : Nat → Int32 → Int32 → Int32 → xhp → Prop) (p0 : Nat) (p1 : Int32) (p2 : Int32) (p3 : Int32) (f : xhp) : Prop :=
  ∃ a1 : Nat, xV f p0 3 0 (.ref a1) ∧
  ∃ a2 : Nat, xV f p0 3 0 (.ref a2) ∧
  xO f a2 2 ∧
  w_Ro_get (fun r4 f3 =>
    xO f3 a1 2 ∧
    w_Ro_set (fun f5 =>
      k32 p0 p1 (p2 + 1) (p3 + 1) f5) a1 p2 r4 f3) a2 p3 f
set_option maxHeartbeats 4000000 in
set_option maxRecDepth 100000 in
theorem s_Va_unquote_53 {post : xhp → Prop} {k32 : Nat → Int32 → Int32 → Int32 → xhp → Prop} (hin : meth.name = "unquote") (hX : xX p R s m args meth c G (xA f0 sz) b_Va_unquote 4 "MailParts$Value" none 2 0 0) (hk32 : ∀ {p0 : Nat} {p1 : Int32} {p2 : Int32} {p3 : Int32} {f : xhp} {H : Heap} {locs : List Loc} {ls : Array Slot}, lv_has ls 4 [(0, .ref p0), (1, .int p1), (2, .int p2), (3, .int p3)] → xW G (xA f0 sz) s f H locs → k32 p0 p1 p2 p3 f → W p l e R s m args below meth c H locs 0 0 (MQ below (va_Qv post (xAt G f0 sz) (xA f0 sz)) args s 0 0 (xA f0 sz)) (F0 m 32 ls [])) {p0 : Nat} {p1 : Int32} {p2 : Int32} {p3 : Int32} {f : xhp} {H : Heap} {locs : List Loc} {ls : Array Slot} (hl : lv_has ls 4 [(0, .ref p0), (1, .int p1), (2, .int p2), (3, .int p3)]) (hW : xW G (xA f0 sz) s f H locs) (h : w_Va_unquote_53 post k32 p0 p1 p2 p3 f) : W p l e R s m args below meth c H locs 0 0 (MQ below (va_Qv post (xAt G f0 sz) (xA f0 sz)) args s 0 0 (xA f0 sz)) (F0 m 53 ls []) := by
  have hx := hX.1
  have hb := hX.2.1
  refine lv_aload_n hx hb d_Va_unquote_53 rfl (lv_at hl 0 rfl) ?_
  obtain ⟨a1, hv, h⟩ := h
  refine x_get hX hW hv i_Va rfl (by decide) kw_71 rfl d_Va_unquote_54 ?_
  refine lv_iload_n hx hb d_Va_unquote_57 rfl (lv_at hl 2 rfl) ?_
  refine lv_aload_n hx hb d_Va_unquote_58 rfl (lv_at hl 0 rfl) ?_
  obtain ⟨a2, hv, h⟩ := h
  refine x_get hX hW hv i_Va rfl (by decide) kw_71 rfl d_Va_unquote_59 ?_
  refine lv_iload_n hx hb d_Va_unquote_62 rfl (lv_at hl 3 rfl) ?_
  obtain ⟨ho, h⟩ := h
  refine x_calli hX hW (x_runV (rest := [.int p2, .ref a1]) hX hW (c_Ro_get h _) ho rfl kw_367 kw_271 kw_272 kw_2 kw_273 yk_Ro_get (by decide) (by decide) rfl hl.1 rfl (Nat.le_of_ble_eq_true rfl) d_Va_unquote_63 ⟨Nat.zero_le _, Nat.zero_le _⟩) (fun r4 f3 H locs h hW => ?_)
  obtain ⟨ho, h⟩ := h
  refine x_callv hX hW (x_runV (rest := []) hX hW (c_Ro_set h _) ho rfl kw_381 kw_382 kw_383 kw_2 kw_384 yk_Ro_set (by decide) (by decide) rfl hl.1 rfl (Nat.le_of_ble_eq_true rfl) d_Va_unquote_66 ⟨Nat.zero_le _, Nat.zero_le _⟩) (fun f5 H locs h hW => ?_)
  refine lv_iinc (v := p2 + 1) (lv' := [(2, .int (p2 + 1)), (0, .ref p0), (1, .int p1), (3, .int p3)]) hx hb d_Va_unquote_69 hl (k := 2) rfl rfl (by decide) rfl (fun ls hl => ?_)
  refine lv_iinc (v := p3 + 1) (lv' := [(3, .int (p3 + 1)), (2, .int (p2 + 1)), (0, .ref p0), (1, .int p1)]) hx hb d_Va_unquote_72 hl (k := 3) rfl rfl (by decide) rfl (fun ls hl => ?_)
  refine lv_goto (tgt := 32) hx hb d_Va_unquote_75 (by decide) ?_
  exact hk32 (lv_sub hl [2, 3, 1, 0] rfl) hW h
def w_Va_unquote_32 (post : xhp → Prop) : Nat → Nat → Int32 → Int32 → Int32 → xhp → Prop
  | 0, _, _, _, _, _ => False
  | n + 1, p0, p1, p2, p3, f =>
    ((p1 ≤ p3 →
      ∃ a1 : Nat, xV f p0 3 0 (.ref a1) ∧
      xO f a1 2 ∧
      w_Ro_shorten (fun f2 =>
        post f2) a1 p2 f) ∧
    (¬ p1 ≤ p3 →
      ∃ a3 : Nat, xV f p0 3 0 (.ref a3) ∧
      xO f a3 2 ∧
      w_Ro_get (fun r5 f4 =>
        ((¬ r5 = 92 →
          w_Va_unquote_53 post (w_Va_unquote_32 post n) p0 p1 p2 p3 f4) ∧
        (r5 = 92 →
          w_Va_unquote_53 post (w_Va_unquote_32 post n) p0 p1 p2 (p3 + 1) f4))) a3 p3 f))
set_option maxHeartbeats 4000000 in
set_option maxRecDepth 100000 in
theorem s_Va_unquote_32 {post : xhp → Prop} (hin : meth.name = "unquote") (hX : xX p R s m args meth c G (xA f0 sz) b_Va_unquote 4 "MailParts$Value" none 2 0 0) : ∀ (n : Nat) {p0 : Nat} {p1 : Int32} {p2 : Int32} {p3 : Int32} {f : xhp} {H : Heap} {locs : List Loc} {ls : Array Slot}, lv_has ls 4 [(0, .ref p0), (1, .int p1), (2, .int p2), (3, .int p3)] → xW G (xA f0 sz) s f H locs → w_Va_unquote_32 post n p0 p1 p2 p3 f → W p l e R s m args below meth c H locs 0 0 (MQ below (va_Qv post (xAt G f0 sz) (xA f0 sz)) args s 0 0 (xA f0 sz)) (F0 m 32 ls []) := by
  have hx := hX.1
  have hb := hX.2.1
  intro n
  induction n with
  | zero => intro p0 p1 p2 p3 f H locs ls hl hW h; exact h.elim
  | succ n ih =>
    intro p0 p1 p2 p3 f H locs ls hl hW h
    refine lv_iload_n hx hb d_Va_unquote_32 rfl (lv_at hl 3 rfl) ?_
    refine lv_iload_n hx hb d_Va_unquote_33 rfl (lv_at hl 1 rfl) ?_
    refine lv_icmp_ge (tgt := 78) hx hb d_Va_unquote_34 (by decide) (fun qc => ?_) (fun qc => ?_)
    · replace h := h.1 qc
      refine lv_aload_n hx hb d_Va_unquote_78 rfl (lv_at hl 0 rfl) ?_
      obtain ⟨a1, hv, h⟩ := h
      refine x_get hX hW hv i_Va rfl (by decide) kw_71 rfl d_Va_unquote_79 ?_
      refine lv_iload_n hx hb d_Va_unquote_82 rfl (lv_at hl 2 rfl) ?_
      obtain ⟨ho, h⟩ := h
      refine x_callv hX hW (x_runV (rest := []) hX hW (c_Ro_shorten h _) ho rfl kw_385 kw_386 kw_387 kw_2 kw_388 yk_Ro_shorten (by decide) (by decide) rfl hl.1 rfl (Nat.le_of_ble_eq_true rfl) d_Va_unquote_83 ⟨Nat.zero_le _, Nat.zero_le _⟩) (fun f2 H locs h hW => ?_)
      exact x_vret hX hW h d_Va_unquote_86
    · replace h := h.2 qc
      refine lv_aload_n hx hb d_Va_unquote_37 rfl (lv_at hl 0 rfl) ?_
      obtain ⟨a3, hv, h⟩ := h
      refine x_get hX hW hv i_Va rfl (by decide) kw_71 rfl d_Va_unquote_38 ?_
      refine lv_iload_n hx hb d_Va_unquote_41 rfl (lv_at hl 3 rfl) ?_
      obtain ⟨ho, h⟩ := h
      refine x_calli hX hW (x_runV (rest := []) hX hW (c_Ro_get h _) ho rfl kw_367 kw_271 kw_272 kw_2 kw_273 yk_Ro_get (by decide) (by decide) rfl hl.1 rfl (Nat.le_of_ble_eq_true rfl) d_Va_unquote_42 ⟨Nat.zero_le _, Nat.zero_le _⟩) (fun r5 f4 H locs h hW => ?_)
      refine lv_bipush (v := 92) hx hb d_Va_unquote_45 (by decide) ?_
      refine lv_icmp_ne (tgt := 53) hx hb d_Va_unquote_47 (by decide) (fun qc => ?_) (fun qc => ?_)
      · replace h := h.1 qc
        exact s_Va_unquote_53 hin hX ih (lv_sub hl [0, 1, 2, 3] rfl) hW h
      · replace h := h.2 qc
        refine lv_iinc (v := p3 + 1) (lv' := [(3, .int (p3 + 1)), (0, .ref p0), (1, .int p1), (2, .int p2)]) hx hb d_Va_unquote_50 hl (k := 3) rfl rfl (by decide) rfl (fun ls hl => ?_)
        exact s_Va_unquote_53 hin hX ih (lv_sub hl [1, 2, 3, 0] rfl) hW h
def w_Va_unquote_21 (post : xhp → Prop) (p0 : Nat) (s0 : Int32) (f : xhp) : Prop :=
  ((¬ s0 = (-1) →
    ∃ u32 : Nat, w_Va_unquote_32 post u32 p0 s0 0 1 f) ∧
  (s0 = (-1) →
    post f))
set_option maxHeartbeats 4000000 in
set_option maxRecDepth 100000 in
theorem s_Va_unquote_21 {post : xhp → Prop} (hin : meth.name = "unquote") (hX : xX p R s m args meth c G (xA f0 sz) b_Va_unquote 4 "MailParts$Value" none 2 0 0) {p0 : Nat} {s0 : Int32} {f : xhp} {H : Heap} {locs : List Loc} {ls : Array Slot} (hl : lv_has ls 4 [(0, .ref p0)]) (hW : xW G (xA f0 sz) s f H locs) (h : w_Va_unquote_21 post p0 s0 f) : W p l e R s m args below meth c H locs 0 0 (MQ below (va_Qv post (xAt G f0 sz) (xA f0 sz)) args s 0 0 (xA f0 sz)) (F0 m 21 ls [.int s0]) := by
  have hx := hX.1
  have hb := hX.2.1
  refine lv_istore_n (i := 1) (lv' := [(1, .int s0), (0, .ref p0)]) hx hb d_Va_unquote_21 rfl hl (by decide) rfl (fun ls hl => ?_)
  refine lv_iload_n hx hb d_Va_unquote_22 rfl (lv_at hl 0 rfl) ?_
  refine lv_iconst (v := (-1)) hx hb d_Va_unquote_23 (by decide) ?_
  refine lv_icmp_ne (tgt := 28) hx hb d_Va_unquote_24 (by decide) (fun qc => ?_) (fun qc => ?_)
  · replace h := h.1 qc
    refine lv_iconst (v := 0) hx hb d_Va_unquote_28 (by decide) ?_
    refine lv_istore_n (i := 2) (lv' := [(2, .int 0), (1, .int s0), (0, .ref p0)]) hx hb d_Va_unquote_29 rfl hl (by decide) rfl (fun ls hl => ?_)
    refine lv_iconst (v := 1) hx hb d_Va_unquote_30 (by decide) ?_
    refine lv_istore_n (i := 3) (lv' := [(3, .int 1), (2, .int 0), (1, .int s0), (0, .ref p0)]) hx hb d_Va_unquote_31 rfl hl (by decide) rfl (fun ls hl => ?_)
    obtain ⟨u32, h⟩ := h
    exact s_Va_unquote_32 hin hX u32 (lv_sub hl [3, 2, 1, 0] rfl) hW h
  · replace h := h.2 qc
    exact x_vret hX hW h d_Va_unquote_27
def w_Va_unquote (post : xhp → Prop) (p0 : Nat) (f : xhp) : Prop :=
  ∃ a1 : Nat, xV f p0 3 0 (.ref a1) ∧
  xO f a1 2 ∧
  w_Ro_get (fun r3 f2 =>
    ((¬ r3 = 34 →
      w_Va_unquote_21 post p0 (-1) f2) ∧
    (r3 = 34 →
      xO f2 p0 3 ∧
      w_Va_closing (fun r5 f4 =>
        w_Va_unquote_21 post p0 r5 f4) p0 f2))) a1 0 f
set_option maxHeartbeats 4000000 in
set_option maxRecDepth 100000 in
theorem c_Va_unquote {l : Launch} {G : xG} {post : xhp → Prop} {p0 : Nat} {f : xhp} (h : w_Va_unquote post p0 f) : xMv l G y_Va_unquote b_Va_unquote 4 none 2 0 0 [.ref p0] f post := by
  refine x_met (by decide) (Nat.le_of_ble_eq_true rfl) ?_
  intro sz p e s m below meth c ls hin hX hl hW
  have hl : lv_has ls 4 [(0, .ref p0)] := hl
  have hx := hX.1
  have hb := hX.2.1
  refine lv_aload_n hx hb d_Va_unquote_0 rfl (lv_at hl 0 rfl) ?_
  obtain ⟨a1, hv, h⟩ := h
  refine x_get hX hW hv i_Va rfl (by decide) kw_71 rfl d_Va_unquote_1 ?_
  refine lv_iconst (v := 0) hx hb d_Va_unquote_4 (by decide) ?_
  obtain ⟨ho, h⟩ := h
  refine x_calli hX hW (x_runV (rest := []) hX hW (c_Ro_get h _) ho rfl kw_367 kw_271 kw_272 kw_2 kw_273 yk_Ro_get (by decide) (by decide) rfl hl.1 rfl (Nat.le_of_ble_eq_true rfl) d_Va_unquote_5 ⟨Nat.zero_le _, Nat.zero_le _⟩) (fun r3 f2 H locs h hW => ?_)
  refine lv_bipush (v := 34) hx hb d_Va_unquote_8 (by decide) ?_
  refine lv_icmp_ne (tgt := 20) hx hb d_Va_unquote_10 (by decide) (fun qc => ?_) (fun qc => ?_)
  · replace h := h.1 qc
    refine lv_iconst (v := (-1)) hx hb d_Va_unquote_20 (by decide) ?_
    exact s_Va_unquote_21 hin hX (lv_sub hl [0] rfl) hW h
  · replace h := h.2 qc
    refine lv_aload_n hx hb d_Va_unquote_13 rfl (lv_at hl 0 rfl) ?_
    obtain ⟨ho, h⟩ := h
    refine x_calli hX hW (x_runV (rest := []) hX hW (c_Va_closing h _) ho rfl kw_431 kw_433 ks_14 kw_5 kw_434 yk_Va_closing (by decide) (by decide) rfl hl.1 rfl (Nat.le_of_ble_eq_true rfl) d_Va_unquote_14 ⟨Nat.zero_le _, Nat.zero_le _⟩) (fun r5 f4 H locs h hW => ?_)
    refine lv_goto (tgt := 21) hx hb d_Va_unquote_17 (by decide) ?_
    exact s_Va_unquote_21 hin hX (lv_sub hl [0] rfl) hW h
/-! MailParts$Value.keepFirstItem()V -/
def w_Va_keepFirstItem_21 (post : xhp → Prop) : Nat → Nat → Int32 → xhp → Prop
  | 0, _, _, _ => False
  | n + 1, p0, p1, f =>
    ∃ a1 : Nat, xV f p0 3 0 (.ref a1) ∧
    ∃ v2 : Int32, xV f a1 2 1 (.int v2) ∧
    ((v2 ≤ p1 →
      post f) ∧
    (¬ v2 ≤ p1 →
      ∃ a3 : Nat, xV f p0 3 0 (.ref a3) ∧
      ∃ a4 : Nat, xV f p0 3 0 (.ref a4) ∧
      xO f a4 2 ∧
      w_Ro_get (fun r6 f5 =>
        w_Mp_small (fun r8 f7 =>
          xO f7 a3 2 ∧
          w_Ro_set (fun f9 =>
            w_Va_keepFirstItem_21 post n p0 (p1 + 1) f9) a3 p1 r8 f7) r6 f5) a4 p1 f))
set_option maxHeartbeats 4000000 in
set_option maxRecDepth 100000 in
theorem s_Va_keepFirstItem_21 {post : xhp → Prop} (hin : meth.name = "keepFirstItem") (hX : xX p R s m args meth c G (xA f0 sz) b_Va_keepFirstItem 2 "MailParts$Value" none 3 0 0) : ∀ (n : Nat) {p0 : Nat} {p1 : Int32} {f : xhp} {H : Heap} {locs : List Loc} {ls : Array Slot}, lv_has ls 2 [(0, .ref p0), (1, .int p1)] → xW G (xA f0 sz) s f H locs → w_Va_keepFirstItem_21 post n p0 p1 f → W p l e R s m args below meth c H locs 0 0 (MQ below (va_Qv post (xAt G f0 sz) (xA f0 sz)) args s 0 0 (xA f0 sz)) (F0 m 21 ls []) := by
  have hx := hX.1
  have hb := hX.2.1
  intro n
  induction n with
  | zero => intro p0 p1 f H locs ls hl hW h; exact h.elim
  | succ n ih =>
    intro p0 p1 f H locs ls hl hW h
    refine lv_iload_n hx hb d_Va_keepFirstItem_21 rfl (lv_at hl 1 rfl) ?_
    refine lv_aload_n hx hb d_Va_keepFirstItem_22 rfl (lv_at hl 0 rfl) ?_
    obtain ⟨a1, hv, h⟩ := h
    refine x_get hX hW hv i_Va rfl (by decide) kw_71 rfl d_Va_keepFirstItem_23 ?_
    obtain ⟨v2, hv, h⟩ := h
    refine x_getN hX hW hv i_Ro rfl (by decide) kw_31 rfl d_Va_keepFirstItem_26 ?_
    refine lv_icmp_ge (tgt := 57) hx hb d_Va_keepFirstItem_29 (by decide) (fun qc => ?_) (fun qc => ?_)
    · replace h := h.1 qc
      exact x_vret hX hW h d_Va_keepFirstItem_57
    · replace h := h.2 qc
      refine lv_aload_n hx hb d_Va_keepFirstItem_32 rfl (lv_at hl 0 rfl) ?_
      obtain ⟨a3, hv, h⟩ := h
      refine x_get hX hW hv i_Va rfl (by decide) kw_71 rfl d_Va_keepFirstItem_33 ?_
      refine lv_iload_n hx hb d_Va_keepFirstItem_36 rfl (lv_at hl 1 rfl) ?_
      refine lv_aload_n hx hb d_Va_keepFirstItem_37 rfl (lv_at hl 0 rfl) ?_
      obtain ⟨a4, hv, h⟩ := h
      refine x_get hX hW hv i_Va rfl (by decide) kw_71 rfl d_Va_keepFirstItem_38 ?_
      refine lv_iload_n hx hb d_Va_keepFirstItem_41 rfl (lv_at hl 1 rfl) ?_
      obtain ⟨ho, h⟩ := h
      refine x_calli hX hW (x_runV (rest := [.int p1, .ref a3]) hX hW (c_Ro_get h _) ho rfl kw_367 kw_271 kw_272 kw_2 kw_273 yk_Ro_get (by decide) (by decide) rfl hl.1 rfl (Nat.le_of_ble_eq_true rfl) d_Va_keepFirstItem_42 ⟨Nat.zero_le _, Nat.zero_le _⟩) (fun r6 f5 H locs h hW => ?_)
      refine x_calli hX hW (x_runSN (rest := [.int p1, .ref a3]) hX hW (c_Mp_small h _) kw_392 kw_353 kw_1 kw_354 yk_Mp_small (by decide) (by decide) rfl hl.1 rfl (Nat.le_of_ble_eq_true rfl) d_Va_keepFirstItem_45 ⟨Nat.zero_le _, Nat.zero_le _⟩) (fun r8 f7 H locs h hW => ?_)
      obtain ⟨ho, h⟩ := h
      refine x_callv hX hW (x_runV (rest := []) hX hW (c_Ro_set h _) ho rfl kw_381 kw_382 kw_383 kw_2 kw_384 yk_Ro_set (by decide) (by decide) rfl hl.1 rfl (Nat.le_of_ble_eq_true rfl) d_Va_keepFirstItem_48 ⟨Nat.zero_le _, Nat.zero_le _⟩) (fun f9 H locs h hW => ?_)
      refine lv_iinc (v := p1 + 1) (lv' := [(1, .int (p1 + 1)), (0, .ref p0)]) hx hb d_Va_keepFirstItem_51 hl (k := 1) rfl rfl (by decide) rfl (fun ls hl => ?_)
      refine lv_goto (tgt := 21) hx hb d_Va_keepFirstItem_54 (by decide) ?_
      exact ih (lv_sub hl [1, 0] rfl) hW h
def w_Va_keepFirstItem (post : xhp → Prop) (p0 : Nat) (f : xhp) : Prop :=
  ∃ a1 : Nat, xV f p0 3 0 (.ref a1) ∧
  ∃ v2 : Int32, xV f a1 2 1 (.int v2) ∧
  xO f p0 3 ∧
  w_Va_find (fun r4 f3 =>
    xO f3 p0 3 ∧
    w_Va_keep (fun f5 =>
      ∃ u21 : Nat, w_Va_keepFirstItem_21 post u21 p0 0 f5) p0 0 r4 f3) p0 59 0 v2 f
set_option maxHeartbeats 4000000 in
set_option maxRecDepth 100000 in
theorem c_Va_keepFirstItem {l : Launch} {G : xG} {post : xhp → Prop} {p0 : Nat} {f : xhp} (h : w_Va_keepFirstItem post p0 f) : xMv l G y_Va_keepFirstItem b_Va_keepFirstItem 2 none 3 0 0 [.ref p0] f post := by
  refine x_met (by decide) (Nat.le_of_ble_eq_true rfl) ?_
  intro sz p e s m below meth c ls hin hX hl hW
  have hl : lv_has ls 2 [(0, .ref p0)] := hl
  have hx := hX.1
  have hb := hX.2.1
  refine lv_aload_n hx hb d_Va_keepFirstItem_0 rfl (lv_at hl 0 rfl) ?_
  refine lv_iconst (v := 0) hx hb d_Va_keepFirstItem_1 (by decide) ?_
  refine lv_aload_n hx hb d_Va_keepFirstItem_2 rfl (lv_at hl 0 rfl) ?_
  refine lv_bipush (v := 59) hx hb d_Va_keepFirstItem_3 (by decide) ?_
  refine lv_iconst (v := 0) hx hb d_Va_keepFirstItem_5 (by decide) ?_
  refine lv_aload_n hx hb d_Va_keepFirstItem_6 rfl (lv_at hl 0 rfl) ?_
  obtain ⟨a1, hv, h⟩ := h
  refine x_get hX hW hv i_Va rfl (by decide) kw_71 rfl d_Va_keepFirstItem_7 ?_
  obtain ⟨v2, hv, h⟩ := h
  refine x_getN hX hW hv i_Ro rfl (by decide) kw_31 rfl d_Va_keepFirstItem_10 ?_
  obtain ⟨ho, h⟩ := h
  refine x_calli hX hW (x_runV (rest := [.int 0, .ref p0]) hX hW (c_Va_find h _) ho rfl kw_363 kw_365 ks_7 kw_5 kw_366 yk_Va_find (by decide) (by decide) rfl hl.1 rfl (Nat.le_of_ble_eq_true rfl) d_Va_keepFirstItem_13 ⟨Nat.zero_le _, Nat.zero_le _⟩) (fun r4 f3 H locs h hW => ?_)
  obtain ⟨ho, h⟩ := h
  refine x_callv hX hW (x_runV (rest := []) hX hW (c_Va_keep h _) ho rfl kw_368 kw_370 ks_8 kw_5 kw_371 yk_Va_keep (by decide) (by decide) rfl hl.1 rfl (Nat.le_of_ble_eq_true rfl) d_Va_keepFirstItem_16 ⟨Nat.zero_le _, Nat.zero_le _⟩) (fun f5 H locs h hW => ?_)
  refine lv_iconst (v := 0) hx hb d_Va_keepFirstItem_19 (by decide) ?_
  refine lv_istore_n (i := 1) (lv' := [(1, .int 0), (0, .ref p0)]) hx hb d_Va_keepFirstItem_20 rfl hl (by decide) rfl (fun ls hl => ?_)
  obtain ⟨u21, h⟩ := h
  exact s_Va_keepFirstItem_21 hin hX u21 (lv_sub hl [1, 0] rfl) hW h
/-! MailParts$Value.keepParameter(LMailParts$Row;)Z -/
def w_Va_keepParameter_96 (post : Int32 → xhp → Prop) (p0 : Nat) (f : xhp) : Prop :=
  ∃ a1 : Nat, xV f p0 3 0 (.ref a1) ∧
  xO f a1 2 ∧
  w_Ro_clear (fun f2 =>
    xz 0 ∧ post 0 f2) a1 f
set_option maxHeartbeats 4000000 in
set_option maxRecDepth 100000 in
theorem s_Va_keepParameter_96 {post : Int32 → xhp → Prop} (hin : meth.name = "keepParameter") (hX : xX p R s m args meth c G (xA f0 sz) b_Va_keepParameter 7 "MailParts$Value" (some .boolean) 3 0 0) {p0 : Nat} {f : xhp} {H : Heap} {locs : List Loc} {ls : Array Slot} (hl : lv_has ls 7 [(0, .ref p0)]) (hW : xW G (xA f0 sz) s f H locs) (h : w_Va_keepParameter_96 post p0 f) : W p l e R s m args below meth c H locs 0 0 (MQ below (va_Qi post (xAt G f0 sz) (xA f0 sz)) args s 0 0 (xA f0 sz)) (F0 m 96 ls []) := by
  have hx := hX.1
  have hb := hX.2.1
  refine lv_aload_n hx hb d_Va_keepParameter_96 rfl (lv_at hl 0 rfl) ?_
  obtain ⟨a1, hv, h⟩ := h
  refine x_get hX hW hv i_Va rfl (by decide) kw_71 rfl d_Va_keepParameter_97 ?_
  obtain ⟨ho, h⟩ := h
  refine x_callv hX hW (x_runV (rest := []) hX hW (c_Ro_clear h _) ho rfl kw_435 kw_95 kw_96 kw_2 kw_97 yk_Ro_clear (by decide) (by decide) rfl hl.1 rfl (Nat.le_of_ble_eq_true rfl) d_Va_keepParameter_100 ⟨Nat.zero_le _, Nat.zero_le _⟩) (fun f2 H locs h hW => ?_)
  refine lv_iconst (v := 0) hx hb d_Va_keepParameter_103 (by decide) ?_
  exact x_zret hX hW h.1 h.2 d_Va_keepParameter_104
def w_Va_keepParameter_90 (post : Int32 → xhp → Prop) (k20 : Nat → Nat → Int32 → Int32 → Int32 → xhp → Prop) (p0 : Nat) (p1 : Nat) (p2 : Int32) (p3 : Int32) (p4 : Int32) (f : xhp) : Prop :=
  k20 p0 p1 p2 p3 (p4 + 1) f
set_option maxHeartbeats 4000000 in
set_option maxRecDepth 100000 in
theorem s_Va_keepParameter_90 {post : Int32 → xhp → Prop} {k20 : Nat → Nat → Int32 → Int32 → Int32 → xhp → Prop} (hin : meth.name = "keepParameter") (hX : xX p R s m args meth c G (xA f0 sz) b_Va_keepParameter 7 "MailParts$Value" (some .boolean) 3 0 0) (hk20 : ∀ {p0 : Nat} {p1 : Nat} {p2 : Int32} {p3 : Int32} {p4 : Int32} {f : xhp} {H : Heap} {locs : List Loc} {ls : Array Slot}, lv_has ls 7 [(0, .ref p0), (1, .ref p1), (2, .int p2), (3, .int p3), (4, .int p4)] → xW G (xA f0 sz) s f H locs → k20 p0 p1 p2 p3 p4 f → W p l e R s m args below meth c H locs 0 0 (MQ below (va_Qi post (xAt G f0 sz) (xA f0 sz)) args s 0 0 (xA f0 sz)) (F0 m 20 ls [])) {p0 : Nat} {p1 : Nat} {p2 : Int32} {p3 : Int32} {p4 : Int32} {f : xhp} {H : Heap} {locs : List Loc} {ls : Array Slot} (hl : lv_has ls 7 [(0, .ref p0), (1, .ref p1), (2, .int p2), (3, .int p3), (4, .int p4)]) (hW : xW G (xA f0 sz) s f H locs) (h : w_Va_keepParameter_90 post k20 p0 p1 p2 p3 p4 f) : W p l e R s m args below meth c H locs 0 0 (MQ below (va_Qi post (xAt G f0 sz) (xA f0 sz)) args s 0 0 (xA f0 sz)) (F0 m 90 ls []) := by
  have hx := hX.1
  have hb := hX.2.1
  refine lv_iinc (v := p4 + 1) (lv' := [(4, .int (p4 + 1)), (0, .ref p0), (1, .ref p1), (2, .int p2), (3, .int p3)]) hx hb d_Va_keepParameter_90 hl (k := 4) rfl rfl (by decide) rfl (fun ls hl => ?_)
  refine lv_goto (tgt := 20) hx hb d_Va_keepParameter_93 (by decide) ?_
  exact hk20 (lv_sub hl [1, 2, 3, 4, 0] rfl) hW h
def w_Va_keepParameter_20 (post : Int32 → xhp → Prop) : Nat → Nat → Nat → Int32 → Int32 → Int32 → xhp → Prop
  | 0, _, _, _, _, _, _ => False
  | n + 1, p0, p1, p2, p3, p4, f =>
    ((p2 < p4 →
      w_Va_keepParameter_96 post p0 f) ∧
    (¬ p2 < p4 →
      ((p2 ≤ p3 →
        w_Va_keepParameter_96 post p0 f) ∧
      (¬ p2 ≤ p3 →
        xO f p0 3 ∧
        w_Va_find (fun r2 f1 =>
          xO f1 p0 3 ∧
          w_Va_find (fun r4 f3 =>
            ((r2 ≤ r4 →
              w_Va_keepParameter_90 post (w_Va_keepParameter_20 post n) p0 p1 p2 r2 p4 f3) ∧
            (¬ r2 ≤ r4 →
              xO f3 p0 3 ∧
              w_Va_isNamed (fun r6 f5 =>
                ((r6 = 0 →
                  w_Va_keepParameter_90 post (w_Va_keepParameter_20 post n) p0 p1 p2 r2 p4 f5) ∧
                (¬ r6 = 0 →
                  xO f5 p0 3 ∧
                  w_Va_keep (fun f7 =>
                    xO f7 p0 3 ∧
                    w_Va_unquote (fun f8 =>
                      xz 1 ∧ post 1 f8) p0 f7) p0 (r4 + 1) r2 f5))) p0 (p3 + 1) r4 p1 f3))) p0 61 (p3 + 1) r2 f1) p0 59 (p3 + 1) p2 f))))
set_option maxHeartbeats 4000000 in
set_option maxRecDepth 100000 in
theorem s_Va_keepParameter_20 {post : Int32 → xhp → Prop} (hin : meth.name = "keepParameter") (hX : xX p R s m args meth c G (xA f0 sz) b_Va_keepParameter 7 "MailParts$Value" (some .boolean) 3 0 0) : ∀ (n : Nat) {p0 : Nat} {p1 : Nat} {p2 : Int32} {p3 : Int32} {p4 : Int32} {f : xhp} {H : Heap} {locs : List Loc} {ls : Array Slot}, lv_has ls 7 [(0, .ref p0), (1, .ref p1), (2, .int p2), (3, .int p3), (4, .int p4)] → xW G (xA f0 sz) s f H locs → w_Va_keepParameter_20 post n p0 p1 p2 p3 p4 f → W p l e R s m args below meth c H locs 0 0 (MQ below (va_Qi post (xAt G f0 sz) (xA f0 sz)) args s 0 0 (xA f0 sz)) (F0 m 20 ls []) := by
  have hx := hX.1
  have hb := hX.2.1
  intro n
  induction n with
  | zero => intro p0 p1 p2 p3 p4 f H locs ls hl hW h; exact h.elim
  | succ n ih =>
    intro p0 p1 p2 p3 p4 f H locs ls hl hW h
    refine lv_iload hx hb d_Va_keepParameter_20 (lv_at hl 4 rfl) ?_
    refine lv_iload_n hx hb d_Va_keepParameter_22 rfl (lv_at hl 2 rfl) ?_
    refine lv_icmp_gt (tgt := 96) hx hb d_Va_keepParameter_23 (by decide) (fun qc => ?_) (fun qc => ?_)
    · replace h := h.1 qc
      exact s_Va_keepParameter_96 hin hX (lv_sub hl [0] rfl) hW h
    · replace h := h.2 qc
      refine lv_iload_n hx hb d_Va_keepParameter_26 rfl (lv_at hl 3 rfl) ?_
      refine lv_iload_n hx hb d_Va_keepParameter_27 rfl (lv_at hl 2 rfl) ?_
      refine lv_icmp_ge (tgt := 96) hx hb d_Va_keepParameter_28 (by decide) (fun qc => ?_) (fun qc => ?_)
      · replace h := h.1 qc
        exact s_Va_keepParameter_96 hin hX (lv_sub hl [0] rfl) hW h
      · replace h := h.2 qc
        refine lv_iload_n hx hb d_Va_keepParameter_31 rfl (lv_at hl 3 rfl) ?_
        refine lv_iconst (v := 1) hx hb d_Va_keepParameter_32 (by decide) ?_
        refine lv_iadd hx hb d_Va_keepParameter_33 ?_
        refine lv_istore (i := 5) (lv' := [(5, .int (p3 + 1)), (0, .ref p0), (1, .ref p1), (2, .int p2), (3, .int p3), (4, .int p4)]) hx hb d_Va_keepParameter_34 hl (by decide) rfl (fun ls hl => ?_)
        refine lv_aload_n hx hb d_Va_keepParameter_36 rfl (lv_at hl 1 rfl) ?_
        refine lv_bipush (v := 59) hx hb d_Va_keepParameter_37 (by decide) ?_
        refine lv_iload hx hb d_Va_keepParameter_39 (lv_at hl 0 rfl) ?_
        refine lv_iload_n hx hb d_Va_keepParameter_41 rfl (lv_at hl 3 rfl) ?_
        obtain ⟨ho, h⟩ := h
        refine x_calli hX hW (x_runV (rest := []) hX hW (c_Va_find h _) ho rfl kw_363 kw_365 ks_7 kw_5 kw_366 yk_Va_find (by decide) (by decide) rfl hl.1 rfl (Nat.le_of_ble_eq_true rfl) d_Va_keepParameter_42 ⟨Nat.zero_le _, Nat.zero_le _⟩) (fun r2 f1 H locs h hW => ?_)
        refine lv_istore_n (i := 3) (lv' := [(3, .int r2), (5, .int (p3 + 1)), (0, .ref p0), (1, .ref p1), (2, .int p2), (4, .int p4)]) hx hb d_Va_keepParameter_45 rfl hl (by decide) rfl (fun ls hl => ?_)
        refine lv_aload_n hx hb d_Va_keepParameter_46 rfl (lv_at hl 2 rfl) ?_
        refine lv_bipush (v := 61) hx hb d_Va_keepParameter_47 (by decide) ?_
        refine lv_iload hx hb d_Va_keepParameter_49 (lv_at hl 1 rfl) ?_
        refine lv_iload_n hx hb d_Va_keepParameter_51 rfl (lv_at hl 0 rfl) ?_
        obtain ⟨ho, h⟩ := h
        refine x_calli hX hW (x_runV (rest := []) hX hW (c_Va_find h _) ho rfl kw_363 kw_365 ks_7 kw_5 kw_366 yk_Va_find (by decide) (by decide) rfl hl.1 rfl (Nat.le_of_ble_eq_true rfl) d_Va_keepParameter_52 ⟨Nat.zero_le _, Nat.zero_le _⟩) (fun r4 f3 H locs h hW => ?_)
        refine lv_istore (i := 6) (lv' := [(6, .int r4), (3, .int r2), (5, .int (p3 + 1)), (0, .ref p0), (1, .ref p1), (2, .int p2), (4, .int p4)]) hx hb d_Va_keepParameter_55 hl (by decide) rfl (fun ls hl => ?_)
        refine lv_iload hx hb d_Va_keepParameter_57 (lv_at hl 0 rfl) ?_
        refine lv_iload_n hx hb d_Va_keepParameter_59 rfl (lv_at hl 1 rfl) ?_
        refine lv_icmp_ge (tgt := 90) hx hb d_Va_keepParameter_60 (by decide) (fun qc => ?_) (fun qc => ?_)
        · replace h := h.1 qc
          exact s_Va_keepParameter_90 hin hX ih (lv_sub hl [3, 4, 5, 1, 6] rfl) hW h
        · replace h := h.2 qc
          refine lv_aload_n hx hb d_Va_keepParameter_63 rfl (lv_at hl 3 rfl) ?_
          refine lv_iload hx hb d_Va_keepParameter_64 (lv_at hl 2 rfl) ?_
          refine lv_iload hx hb d_Va_keepParameter_66 (lv_at hl 0 rfl) ?_
          refine lv_aload_n hx hb d_Va_keepParameter_68 rfl (lv_at hl 4 rfl) ?_
          obtain ⟨ho, h⟩ := h
          refine x_calli hX hW (x_runV (rest := []) hX hW (c_Va_isNamed h _) ho rfl kw_422 kw_424 ks_12 kw_5 kw_425 yk_Va_isNamed (by decide) (by decide) rfl hl.1 rfl (Nat.le_of_ble_eq_true rfl) d_Va_keepParameter_69 ⟨Nat.zero_le _, Nat.zero_le _⟩) (fun r6 f5 H locs h hW => ?_)
          refine lv_if_eq (tgt := 90) hx hb d_Va_keepParameter_72 (by decide) (fun qc => ?_) (fun qc => ?_)
          · replace h := h.1 qc
            exact s_Va_keepParameter_90 hin hX ih (lv_sub hl [3, 4, 5, 1, 6] rfl) hW h
          · replace h := h.2 qc
            refine lv_aload_n hx hb d_Va_keepParameter_75 rfl (lv_at hl 3 rfl) ?_
            refine lv_iload hx hb d_Va_keepParameter_76 (lv_at hl 0 rfl) ?_
            refine lv_iconst (v := 1) hx hb d_Va_keepParameter_78 (by decide) ?_
            refine lv_iadd hx hb d_Va_keepParameter_79 ?_
            refine lv_iload_n hx hb d_Va_keepParameter_80 rfl (lv_at hl 1 rfl) ?_
            obtain ⟨ho, h⟩ := h
            refine x_callv hX hW (x_runV (rest := []) hX hW (c_Va_keep h _) ho rfl kw_368 kw_370 ks_8 kw_5 kw_371 yk_Va_keep (by decide) (by decide) rfl hl.1 rfl (Nat.le_of_ble_eq_true rfl) d_Va_keepParameter_81 ⟨Nat.zero_le _, Nat.zero_le _⟩) (fun f7 H locs h hW => ?_)
            refine lv_aload_n hx hb d_Va_keepParameter_84 rfl (lv_at hl 3 rfl) ?_
            obtain ⟨ho, h⟩ := h
            refine x_callv hX hW (x_runV (rest := []) hX hW (c_Va_unquote h _) ho rfl kw_427 kw_429 ks_13 kw_5 kw_430 yk_Va_unquote (by decide) (by decide) rfl hl.1 rfl (Nat.le_of_ble_eq_true rfl) d_Va_keepParameter_85 ⟨Nat.zero_le _, Nat.zero_le _⟩) (fun f8 H locs h hW => ?_)
            refine lv_iconst (v := 1) hx hb d_Va_keepParameter_88 (by decide) ?_
            exact x_zret hX hW h.1 h.2 d_Va_keepParameter_89
def w_Va_keepParameter (post : Int32 → xhp → Prop) (p0 : Nat) (p1 : Nat) (f : xhp) : Prop :=
  ∃ a1 : Nat, xV f p0 3 0 (.ref a1) ∧
  ∃ v2 : Int32, xV f a1 2 1 (.int v2) ∧
  xO f p0 3 ∧
  w_Va_find (fun r4 f3 =>
    ∃ u20 : Nat, w_Va_keepParameter_20 post u20 p0 p1 v2 r4 1 f3) p0 59 0 v2 f
set_option maxHeartbeats 4000000 in
set_option maxRecDepth 100000 in
theorem c_Va_keepParameter {l : Launch} {G : xG} {post : Int32 → xhp → Prop} {p0 : Nat} {p1 : Nat} {f : xhp} (h : w_Va_keepParameter post p0 p1 f) : xMi l G y_Va_keepParameter b_Va_keepParameter 7 (some .boolean) 3 0 0 [.ref p0, .ref p1] f post := by
  refine x_met (by decide) (Nat.le_of_ble_eq_true rfl) ?_
  intro sz p e s m below meth c ls hin hX hl hW
  have hl : lv_has ls 7 [(0, .ref p0), (1, .ref p1)] := hl
  have hx := hX.1
  have hb := hX.2.1
  refine lv_aload_n hx hb d_Va_keepParameter_0 rfl (lv_at hl 0 rfl) ?_
  obtain ⟨a1, hv, h⟩ := h
  refine x_get hX hW hv i_Va rfl (by decide) kw_71 rfl d_Va_keepParameter_1 ?_
  obtain ⟨v2, hv, h⟩ := h
  refine x_getN hX hW hv i_Ro rfl (by decide) kw_31 rfl d_Va_keepParameter_4 ?_
  refine lv_istore_n (i := 2) (lv' := [(2, .int v2), (0, .ref p0), (1, .ref p1)]) hx hb d_Va_keepParameter_7 rfl hl (by decide) rfl (fun ls hl => ?_)
  refine lv_aload_n hx hb d_Va_keepParameter_8 rfl (lv_at hl 1 rfl) ?_
  refine lv_bipush (v := 59) hx hb d_Va_keepParameter_9 (by decide) ?_
  refine lv_iconst (v := 0) hx hb d_Va_keepParameter_11 (by decide) ?_
  refine lv_iload_n hx hb d_Va_keepParameter_12 rfl (lv_at hl 0 rfl) ?_
  obtain ⟨ho, h⟩ := h
  refine x_calli hX hW (x_runV (rest := []) hX hW (c_Va_find h _) ho rfl kw_363 kw_365 ks_7 kw_5 kw_366 yk_Va_find (by decide) (by decide) rfl hl.1 rfl (Nat.le_of_ble_eq_true rfl) d_Va_keepParameter_13 ⟨Nat.zero_le _, Nat.zero_le _⟩) (fun r4 f3 H locs h hW => ?_)
  refine lv_istore_n (i := 3) (lv' := [(3, .int r4), (2, .int v2), (0, .ref p0), (1, .ref p1)]) hx hb d_Va_keepParameter_16 rfl hl (by decide) rfl (fun ls hl => ?_)
  refine lv_iconst (v := 1) hx hb d_Va_keepParameter_17 (by decide) ?_
  refine lv_istore (i := 4) (lv' := [(4, .int 1), (3, .int r4), (2, .int v2), (0, .ref p0), (1, .ref p1)]) hx hb d_Va_keepParameter_18 hl (by decide) rfl (fun ls hl => ?_)
  obtain ⟨u20, h⟩ := h
  exact s_Va_keepParameter_20 hin hX u20 (lv_sub hl [3, 4, 2, 1, 0] rfl) hW h
end
