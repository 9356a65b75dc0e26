section
variable {p : Program} {l : Launch} {e : Env} {R : Room} {s : State} {m : MethodId} {args : Array Value} {below : List Frame} {meth : Method} {c : Code} {G : xG} {f0 : xhp} {sz : Nat}
/-! MailParts$Row.begins(Ljava/lang/String;)Z -/
def w_Ro_begins_15 (sk : Nat → Nat) (post : Int32 → xhp → Prop) : Nat → Nat → Nat → Int32 → xhp → Prop
  | 0, _, _, _, _ => False
  | n + 1, p0, p1, p2, f =>
    w_JS_length sk (fun r2 f1 =>
      ((r2 ≤ p2 →
        xz 1 ∧ post 1 f1) ∧
      (¬ r2 ≤ p2 →
        xO f1 p0 2 ∧
        w_Ro_get (fun r4 f3 =>
          w_JS_charAt sk (fun r6 f5 =>
            ((r4 = r6 →
              w_Ro_begins_15 sk post n p0 p1 (p2 + 1) f5) ∧
            (¬ r4 = r6 →
              xz 0 ∧ post 0 f5))) p1 p2 f3) p0 p2 f1))) p1 f
set_option maxHeartbeats 4000000 in
set_option maxRecDepth 100000 in
theorem s_Ro_begins_15 {post : Int32 → xhp → Prop} (hin : meth.name = "begins") (hX : xX p R s m args meth c G (xA f0 sz) b_Ro_begins 3 "MailParts$Row" (some .boolean) 6 0 0) : ∀ (n : Nat) {p0 : Nat} {p1 : Nat} {p2 : Int32} {f : xhp} {H : Heap} {locs : List Loc} {ls : Array Slot}, lv_has ls 3 [(0, .ref p0), (1, .ref p1), (2, .int p2)] → xW G (xA f0 sz) s f H locs → w_Ro_begins_15 G.2.2.1 post n p0 p1 p2 f → W p l e R s m args below meth c H locs 0 0 (MQ below (va_Qi post (xAt G f0 sz) (xA f0 sz)) args s 0 0 (xA f0 sz)) (F0 m 15 ls []) := by
  have hx := hX.1
  have hb := hX.2.1
  intro n
  induction n with
  | zero => intro p0 p1 p2 f H locs ls hl hW h; exact h.elim
  | succ n ih =>
    intro p0 p1 p2 f H locs ls hl hW h
    refine lv_iload_n hx hb d_Ro_begins_15 rfl (lv_at hl 2 rfl) ?_
    refine lv_aload_n hx hb d_Ro_begins_16 rfl (lv_at hl 1 rfl) ?_
    have ho : ∃ i : Nat, i < xnS ∧ p1 = G.2.2.1 i := by obtain ⟨i, hi, hb9, -⟩ := h; exact ⟨i, hi, hb9⟩
    obtain ⟨iJ, ho⟩ := ho
    refine x_calli hX hW (x_runVJ (rest := [.int p2]) hX hW (c_JS_length h _) ho kw_98 kw_81 kw_82 kw_6 kw_83 yk_JS_length (by decide) (by decide) rfl hl.1 rfl (Nat.le_of_ble_eq_true rfl) d_Ro_begins_17 ⟨Nat.zero_le _, Nat.zero_le _⟩) (fun r2 f1 H locs h hW => ?_)
    refine lv_icmp_ge (tgt := 44) hx hb d_Ro_begins_20 (by decide) (fun qc => ?_) (fun qc => ?_)
    · replace h := h.1 qc
      refine lv_iconst (v := 1) hx hb d_Ro_begins_44 (by decide) ?_
      exact x_zret hX hW h.1 h.2 d_Ro_begins_45
    · replace h := h.2 qc
      refine lv_aload_n hx hb d_Ro_begins_23 rfl (lv_at hl 0 rfl) ?_
      refine lv_iload_n hx hb d_Ro_begins_24 rfl (lv_at hl 2 rfl) ?_
      obtain ⟨ho, h⟩ := h
      refine x_calli hX hW (x_runV (rest := []) hX hW (c_Ro_get h _) ho rfl kw_288 kw_271 kw_272 kw_2 kw_273 yk_Ro_get (by decide) (by decide) rfl hl.1 rfl (Nat.le_of_ble_eq_true rfl) d_Ro_begins_25 ⟨Nat.zero_le _, Nat.zero_le _⟩) (fun r4 f3 H locs h hW => ?_)
      refine lv_aload_n hx hb d_Ro_begins_28 rfl (lv_at hl 1 rfl) ?_
      refine lv_iload_n hx hb d_Ro_begins_29 rfl (lv_at hl 2 rfl) ?_
      have ho : ∃ i : Nat, i < xnS ∧ p1 = G.2.2.1 i := by obtain ⟨i, hi, hb9, -⟩ := h; exact ⟨i, hi, hb9⟩
      obtain ⟨iJ, ho⟩ := ho
      refine x_calli hX hW (x_runVJ (rest := [.int r4]) hX hW (c_JS_charAt h _) ho kw_99 kw_100 kw_101 kw_6 kw_102 yk_JS_charAt (by decide) (by decide) rfl hl.1 rfl (Nat.le_of_ble_eq_true rfl) d_Ro_begins_30 ⟨Nat.zero_le _, Nat.zero_le _⟩) (fun r6 f5 H locs h hW => ?_)
      refine lv_icmp_eq (tgt := 38) hx hb d_Ro_begins_33 (by decide) (fun qc => ?_) (fun qc => ?_)
      · replace h := h.1 qc
        refine lv_iinc (v := p2 + 1) (lv' := [(2, .int (p2 + 1)), (0, .ref p0), (1, .ref p1)]) hx hb d_Ro_begins_38 hl (k := 2) rfl rfl (by decide) rfl (fun ls hl => ?_)
        refine lv_goto (tgt := 15) hx hb d_Ro_begins_41 (by decide) ?_
        exact ih (lv_sub hl [1, 2, 0] rfl) hW h
      · replace h := h.2 qc
        refine lv_iconst (v := 0) hx hb d_Ro_begins_36 (by decide) ?_
        exact x_zret hX hW h.1 h.2 d_Ro_begins_37
def w_Ro_begins (sk : Nat → Nat) (post : Int32 → xhp → Prop) (p0 : Nat) (p1 : Nat) (f : xhp) : Prop :=
  ∃ v1 : Int32, xV f p0 2 1 (.int v1) ∧
  w_JS_length sk (fun r3 f2 =>
    ((r3 ≤ v1 →
      ∃ u15 : Nat, w_Ro_begins_15 sk post u15 p0 p1 0 f2) ∧
    (¬ r3 ≤ v1 →
      xz 0 ∧ post 0 f2))) p1 f
set_option maxHeartbeats 4000000 in
set_option maxRecDepth 100000 in
theorem c_Ro_begins {l : Launch} {G : xG} {post : Int32 → xhp → Prop} {p0 : Nat} {p1 : Nat} {f : xhp} (h : w_Ro_begins G.2.2.1 post p0 p1 f) : xMi l G y_Ro_begins b_Ro_begins 3 (some .boolean) 6 0 0 [.ref p0, .ref p1] f post := by
  refine x_met (by decide) (Nat.le_of_ble_eq_true rfl) ?_
  intro sz p e s m below meth c ls hin hX hl hW
  have hl : lv_has ls 3 [(0, .ref p0), (1, .ref p1)] := hl
  have hx := hX.1
  have hb := hX.2.1
  refine lv_aload_n hx hb d_Ro_begins_0 rfl (lv_at hl 0 rfl) ?_
  obtain ⟨v1, hv, h⟩ := h
  refine x_get hX hW hv i_Ro rfl (by decide) kw_30 rfl d_Ro_begins_1 ?_
  refine lv_aload_n hx hb d_Ro_begins_4 rfl (lv_at hl 1 rfl) ?_
  have ho : ∃ i : Nat, i < xnS ∧ p1 = G.2.2.1 i := by obtain ⟨i, hi, hb9, -⟩ := h; exact ⟨i, hi, hb9⟩
  obtain ⟨iJ, ho⟩ := ho
  refine x_calli hX hW (x_runVJ (rest := [.int v1]) hX hW (c_JS_length h _) ho kw_98 kw_81 kw_82 kw_6 kw_83 yk_JS_length (by decide) (by decide) rfl hl.1 rfl (Nat.le_of_ble_eq_true rfl) d_Ro_begins_5 ⟨Nat.zero_le _, Nat.zero_le _⟩) (fun r3 f2 H locs h hW => ?_)
  refine lv_icmp_ge (tgt := 13) hx hb d_Ro_begins_8 (by decide) (fun qc => ?_) (fun qc => ?_)
  · replace h := h.1 qc
    refine lv_iconst (v := 0) hx hb d_Ro_begins_13 (by decide) ?_
    refine lv_istore_n (i := 2) (lv' := [(2, .int 0), (0, .ref p0), (1, .ref p1)]) hx hb d_Ro_begins_14 rfl hl (by decide) rfl (fun ls hl => ?_)
    obtain ⟨u15, h⟩ := h
    exact s_Ro_begins_15 hin hX u15 (lv_sub hl [1, 2, 0] rfl) hW h
  · replace h := h.2 qc
    refine lv_iconst (v := 0) hx hb d_Ro_begins_11 (by decide) ?_
    exact x_zret hX hW h.1 h.2 d_Ro_begins_12
/-! MailParts$Row.put(Ljava/lang/String;)V -/
def w_Ro_put_6 (sk : Nat → Nat) (post : xhp → Prop) : Nat → Nat → Nat → Int32 → xhp → Prop
  | 0, _, _, _, _ => False
  | n + 1, p0, p1, p2, f =>
    w_JS_length sk (fun r2 f1 =>
      ((r2 ≤ p2 →
        post f1) ∧
      (¬ r2 ≤ p2 →
        w_JS_charAt sk (fun r4 f3 =>
          xO f3 p0 2 ∧
          w_Ro_add (fun f5 =>
            w_Ro_put_6 sk post n p0 p1 (p2 + 1) f5) p0 r4 f3) p1 p2 f1))) p1 f
set_option maxHeartbeats 4000000 in
set_option maxRecDepth 100000 in
theorem s_Ro_put_6 {post : xhp → Prop} (hin : meth.name = "put") (hX : xX p R s m args meth c G (xA f0 sz) b_Ro_put 3 "MailParts$Row" none 6 0 0) : ∀ (n : Nat) {p0 : Nat} {p1 : Nat} {p2 : Int32} {f : xhp} {H : Heap} {locs : List Loc} {ls : Array Slot}, lv_has ls 3 [(0, .ref p0), (1, .ref p1), (2, .int p2)] → xW G (xA f0 sz) s f H locs → w_Ro_put_6 G.2.2.1 post n p0 p1 p2 f → W p l e R s m args below meth c H locs 0 0 (MQ below (va_Qv post (xAt G f0 sz) (xA f0 sz)) args s 0 0 (xA f0 sz)) (F0 m 6 ls []) := by
  have hx := hX.1
  have hb := hX.2.1
  intro n
  induction n with
  | zero => intro p0 p1 p2 f H locs ls hl hW h; exact h.elim
  | succ n ih =>
    intro p0 p1 p2 f H locs ls hl hW h
    refine lv_iload_n hx hb d_Ro_put_6 rfl (lv_at hl 2 rfl) ?_
    refine lv_aload_n hx hb d_Ro_put_7 rfl (lv_at hl 1 rfl) ?_
    have ho : ∃ i : Nat, i < xnS ∧ p1 = G.2.2.1 i := by obtain ⟨i, hi, hb9, -⟩ := h; exact ⟨i, hi, hb9⟩
    obtain ⟨iJ, ho⟩ := ho
    refine x_calli hX hW (x_runVJ (rest := [.int p2]) hX hW (c_JS_length h _) ho kw_98 kw_81 kw_82 kw_6 kw_83 yk_JS_length (by decide) (by decide) rfl hl.1 rfl (Nat.le_of_ble_eq_true rfl) d_Ro_put_8 ⟨Nat.zero_le _, Nat.zero_le _⟩) (fun r2 f1 H locs h hW => ?_)
    refine lv_icmp_ge (tgt := 29) hx hb d_Ro_put_11 (by decide) (fun qc => ?_) (fun qc => ?_)
    · replace h := h.1 qc
      exact x_vret hX hW h d_Ro_put_29
    · replace h := h.2 qc
      refine lv_aload_n hx hb d_Ro_put_14 rfl (lv_at hl 0 rfl) ?_
      refine lv_aload_n hx hb d_Ro_put_15 rfl (lv_at hl 1 rfl) ?_
      refine lv_iload_n hx hb d_Ro_put_16 rfl (lv_at hl 2 rfl) ?_
      have ho : ∃ i : Nat, i < xnS ∧ p1 = G.2.2.1 i := by obtain ⟨i, hi, hb9, -⟩ := h; exact ⟨i, hi, hb9⟩
      obtain ⟨iJ, ho⟩ := ho
      refine x_calli hX hW (x_runVJ (rest := [.ref p0]) hX hW (c_JS_charAt h _) ho kw_99 kw_100 kw_101 kw_6 kw_102 yk_JS_charAt (by decide) (by decide) rfl hl.1 rfl (Nat.le_of_ble_eq_true rfl) d_Ro_put_17 ⟨Nat.zero_le _, Nat.zero_le _⟩) (fun r4 f3 H locs h hW => ?_)
      obtain ⟨ho, h⟩ := h
      refine x_callv hX hW (x_runV (rest := []) hX hW (c_Ro_add h _) ho rfl kw_137 kw_138 kw_139 kw_2 kw_140 yk_Ro_add (by decide) (by decide) rfl hl.1 rfl (Nat.le_of_ble_eq_true rfl) d_Ro_put_20 ⟨Nat.zero_le _, Nat.zero_le _⟩) (fun f5 H locs h hW => ?_)
      refine lv_iinc (v := p2 + 1) (lv' := [(2, .int (p2 + 1)), (0, .ref p0), (1, .ref p1)]) hx hb d_Ro_put_23 hl (k := 2) rfl rfl (by decide) rfl (fun ls hl => ?_)
      refine lv_goto (tgt := 6) hx hb d_Ro_put_26 (by decide) ?_
      exact ih (lv_sub hl [1, 2, 0] rfl) hW h
def w_Ro_put (sk : Nat → Nat) (post : xhp → Prop) (p0 : Nat) (p1 : Nat) (f : xhp) : Prop :=
  xO f p0 2 ∧
  w_Ro_clear (fun f1 =>
    ∃ u6 : Nat, w_Ro_put_6 sk post u6 p0 p1 0 f1) p0 f
set_option maxHeartbeats 4000000 in
set_option maxRecDepth 100000 in
theorem c_Ro_put {l : Launch} {G : xG} {post : xhp → Prop} {p0 : Nat} {p1 : Nat} {f : xhp} (h : w_Ro_put G.2.2.1 post p0 p1 f) : xMv l G y_Ro_put b_Ro_put 3 none 6 0 0 [.ref p0, .ref p1] f post := by
  refine x_met (by decide) (Nat.le_of_ble_eq_true rfl) ?_
  intro sz p e s m below meth c ls hin hX hl hW
  have hl : lv_has ls 3 [(0, .ref p0), (1, .ref p1)] := hl
  have hx := hX.1
  have hb := hX.2.1
  refine lv_aload_n hx hb d_Ro_put_0 rfl (lv_at hl 0 rfl) ?_
  obtain ⟨ho, h⟩ := h
  refine x_callv hX hW (x_runV (rest := []) hX hW (c_Ro_clear h _) ho rfl kw_94 kw_95 kw_96 kw_2 kw_97 yk_Ro_clear (by decide) (by decide) rfl hl.1 rfl (Nat.le_of_ble_eq_true rfl) d_Ro_put_1 ⟨Nat.zero_le _, Nat.zero_le _⟩) (fun f1 H locs h hW => ?_)
  refine lv_iconst (v := 0) hx hb d_Ro_put_4 (by decide) ?_
  refine lv_istore_n (i := 2) (lv' := [(2, .int 0), (0, .ref p0), (1, .ref p1)]) hx hb d_Ro_put_5 rfl hl (by decide) rfl (fun ls hl => ?_)
  obtain ⟨u6, h⟩ := h
  exact s_Ro_put_6 hin hX u6 (lv_sub hl [1, 2, 0] rfl) hW h
/-! MailParts$Row.is(Ljava/lang/String;)Z -/
def w_Ro_is_24 (sk : Nat → Nat) (post : Int32 → xhp → Prop) (s0 : Int32) (f : xhp) : Prop :=
  xz s0 ∧ post s0 f
set_option maxHeartbeats 4000000 in
set_option maxRecDepth 100000 in
theorem s_Ro_is_24 {post : Int32 → xhp → Prop} (hin : meth.name = "is") (hX : xX p R s m args meth c G (xA f0 sz) b_Ro_is 2 "MailParts$Row" (some .boolean) 7 0 0) {s0 : Int32} {f : xhp} {H : Heap} {locs : List Loc} {ls : Array Slot} (hl : lv_has ls 2 []) (hW : xW G (xA f0 sz) s f H locs) (h : w_Ro_is_24 G.2.2.1 post s0 f) : W p l e R s m args below meth c H locs 0 0 (MQ below (va_Qi post (xAt G f0 sz) (xA f0 sz)) args s 0 0 (xA f0 sz)) (F0 m 24 ls [.int s0]) := by
  have hx := hX.1
  have hb := hX.2.1
  exact x_zret hX hW h.1 h.2 d_Ro_is_24
def w_Ro_is_23 (sk : Nat → Nat) (post : Int32 → xhp → Prop) (f : xhp) : Prop :=
  w_Ro_is_24 sk post 0 f
set_option maxHeartbeats 4000000 in
set_option maxRecDepth 100000 in
theorem s_Ro_is_23 {post : Int32 → xhp → Prop} (hin : meth.name = "is") (hX : xX p R s m args meth c G (xA f0 sz) b_Ro_is 2 "MailParts$Row" (some .boolean) 7 0 0)  {f : xhp} {H : Heap} {locs : List Loc} {ls : Array Slot} (hl : lv_has ls 2 []) (hW : xW G (xA f0 sz) s f H locs) (h : w_Ro_is_23 G.2.2.1 post  f) : W p l e R s m args below meth c H locs 0 0 (MQ below (va_Qi post (xAt G f0 sz) (xA f0 sz)) args s 0 0 (xA f0 sz)) (F0 m 23 ls []) := by
  have hx := hX.1
  have hb := hX.2.1
  refine lv_iconst (v := 0) hx hb d_Ro_is_23 (by decide) ?_
  exact s_Ro_is_24 hin hX (lv_sub hl [] rfl) hW h
def w_Ro_is (sk : Nat → Nat) (post : Int32 → xhp → Prop) (p0 : Nat) (p1 : Nat) (f : xhp) : Prop :=
  ∃ v1 : Int32, xV f p0 2 1 (.int v1) ∧
  w_JS_length sk (fun r3 f2 =>
    ((¬ v1 = r3 →
      w_Ro_is_23 sk post f2) ∧
    (v1 = r3 →
      xO f2 p0 2 ∧
      w_Ro_begins sk (fun r5 f4 =>
        ((r5 = 0 →
          w_Ro_is_23 sk post f4) ∧
        (¬ r5 = 0 →
          w_Ro_is_24 sk post 1 f4))) p0 p1 f2))) p1 f
set_option maxHeartbeats 4000000 in
set_option maxRecDepth 100000 in
theorem c_Ro_is {l : Launch} {G : xG} {post : Int32 → xhp → Prop} {p0 : Nat} {p1 : Nat} {f : xhp} (h : w_Ro_is G.2.2.1 post p0 p1 f) : xMi l G y_Ro_is b_Ro_is 2 (some .boolean) 7 0 0 [.ref p0, .ref p1] f post := by
  refine x_met (by decide) (Nat.le_of_ble_eq_true rfl) ?_
  intro sz p e s m below meth c ls hin hX hl hW
  have hl : lv_has ls 2 [(0, .ref p0), (1, .ref p1)] := hl
  have hx := hX.1
  have hb := hX.2.1
  refine lv_aload_n hx hb d_Ro_is_0 rfl (lv_at hl 0 rfl) ?_
  obtain ⟨v1, hv, h⟩ := h
  refine x_get hX hW hv i_Ro rfl (by decide) kw_30 rfl d_Ro_is_1 ?_
  refine lv_aload_n hx hb d_Ro_is_4 rfl (lv_at hl 1 rfl) ?_
  have ho : ∃ i : Nat, i < xnS ∧ p1 = G.2.2.1 i := by obtain ⟨i, hi, hb9, -⟩ := h; exact ⟨i, hi, hb9⟩
  obtain ⟨iJ, ho⟩ := ho
  refine x_calli hX hW (x_runVJ (rest := [.int v1]) hX hW (c_JS_length h _) ho kw_98 kw_81 kw_82 kw_6 kw_83 yk_JS_length (by decide) (by decide) rfl hl.1 rfl (Nat.le_of_ble_eq_true rfl) d_Ro_is_5 ⟨Nat.zero_le _, Nat.zero_le _⟩) (fun r3 f2 H locs h hW => ?_)
  refine lv_icmp_ne (tgt := 23) hx hb d_Ro_is_8 (by decide) (fun qc => ?_) (fun qc => ?_)
  · replace h := h.1 qc
    exact s_Ro_is_23 hin hX (lv_sub hl [] rfl) hW h
  · replace h := h.2 qc
    refine lv_aload_n hx hb d_Ro_is_11 rfl (lv_at hl 0 rfl) ?_
    refine lv_aload_n hx hb d_Ro_is_12 rfl (lv_at hl 1 rfl) ?_
    obtain ⟨ho, h⟩ := h
    refine x_calli hX hW (x_runV (rest := []) hX hW (c_Ro_begins h _) ho rfl kw_409 kw_401 kw_402 kw_2 kw_403 yk_Ro_begins (by decide) (by decide) rfl hl.1 rfl (Nat.le_of_ble_eq_true rfl) d_Ro_is_13 ⟨Nat.zero_le _, Nat.zero_le _⟩) (fun r5 f4 H locs h hW => ?_)
    refine lv_if_eq (tgt := 23) hx hb d_Ro_is_16 (by decide) (fun qc => ?_) (fun qc => ?_)
    · replace h := h.1 qc
      exact s_Ro_is_23 hin hX (lv_sub hl [] rfl) hW h
    · replace h := h.2 qc
      refine lv_iconst (v := 1) hx hb d_Ro_is_19 (by decide) ?_
      refine lv_goto (tgt := 24) hx hb d_Ro_is_20 (by decide) ?_
      exact s_Ro_is_24 hin hX (lv_sub hl [] rfl) hW h
end
